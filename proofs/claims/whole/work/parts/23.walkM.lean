set_option maxHeartbeats 4000000 in
set_option maxRecDepth 100000 in
theorem c_X5_sets (l : Launch) (G : Gp) (hO : gOK G) (hwin : ∀ k, 17 ≤ k → k < 25 → k ∈ gks G) {x1 : Int32} {x2 : Int32} {x3 : Int32} {x4 : Int32} {x5 : Int32} {x6 : Int32} {x7 : Int32}  {st : St} {Q : St → Prop} (hw : wp_X5_sets x1 x2 x3 x4 x5 x6 x7 st Q) : MV l G yX5_sets cX5_sets 9 { frames := 0, cells := 0, slots := 0, locals := 0 } [.ref (gh G 17), .int x1, .int x2, .int x3, .int x4, .int x5, .int x6, .int x7] st Q := by
  refine MV.of (own := RX5) (lo := 17) (hi := 25) hO hwin (by decide) rfl (Nat.le_of_ble_eq_true rfl) (fun p e s m args below meth c C hr hlk => ?_)
  refine g_lv (lv' := [(0, .ref (gh G 17)), (1, .int x1), (2, .int x2), (3, .int x3), (4, .int x4), (5, .int x5), (6, .int x6), (7, .int x7)]) rfl ?_
  unfold wp_X5_sets at hw
  refine g_bipush C (42 : Int32) dX5_sets_0 (by decide) ?_
  refine g_iload_n C 1 dX5_sets_2 rfl rfl ?_
  refine g_imul C dX5_sets_3 ?_
  refine g_iconst C (2 : Int32) dX5_sets_4 (by decide) ?_
  refine g_iadd C dX5_sets_5 ?_
  refine g_iconst C (5 : Int32) dX5_sets_6 (by decide) ?_
  refine g_iload_n C 2 dX5_sets_7 rfl rfl ?_
  refine g_imul C dX5_sets_8 ?_
  refine g_iadd C dX5_sets_9 ?_
  refine g_topi (fun x8_1 ex8_1 => ?_)
  replace hw := hw x8_1 ex8_1
  refine g_istore C dX5_sets_10 (by decide) (lv' := [(8, .int x8_1), (0, .ref (gh G 17)), (1, .int x1), (2, .int x2), (3, .int x3), (4, .int x4), (5, .int x5), (6, .int x6), (7, .int x7)]) rfl ?_
  refine g_aload_n C 1 dX5_sets_12 rfl rfl ?_
  refine g_get C inX5 (C.win (by decide) (by decide)) rfl rfl 3 (by decide) tw_626 rfl dX5_sets_13 ?_
  refine g_iload C 0 dX5_sets_16 rfl ?_
  refine g_iload_n C 4 dX5_sets_18 rfl rfl ?_
  refine g_iast C (C.win (by decide) (by decide)) (fun _ => rfl) hw.1 dX5_sets_19 ?_
  replace hw := hw.2
  refine g_aload_n C 1 dX5_sets_20 rfl rfl ?_
  refine g_get C inX5 (C.win (by decide) (by decide)) rfl rfl 3 (by decide) tw_626 rfl dX5_sets_21 ?_
  refine g_iload C 0 dX5_sets_24 rfl ?_
  refine g_iconst C (1 : Int32) dX5_sets_26 (by decide) ?_
  refine g_iadd C dX5_sets_27 ?_
  refine g_iload C 5 dX5_sets_28 rfl ?_
  refine g_iast C (C.win (by decide) (by decide)) (fun _ => rfl) hw.1 dX5_sets_30 ?_
  replace hw := hw.2
  refine g_aload_n C 1 dX5_sets_31 rfl rfl ?_
  refine g_get C inX5 (C.win (by decide) (by decide)) rfl rfl 3 (by decide) tw_626 rfl dX5_sets_32 ?_
  refine g_iload C 0 dX5_sets_35 rfl ?_
  refine g_iconst C (2 : Int32) dX5_sets_37 (by decide) ?_
  refine g_iadd C dX5_sets_38 ?_
  refine g_iload C 6 dX5_sets_39 rfl ?_
  refine g_iast C (C.win (by decide) (by decide)) (fun _ => rfl) hw.1 dX5_sets_41 ?_
  replace hw := hw.2
  refine g_aload_n C 1 dX5_sets_42 rfl rfl ?_
  refine g_get C inX5 (C.win (by decide) (by decide)) rfl rfl 3 (by decide) tw_626 rfl dX5_sets_43 ?_
  refine g_iload C 0 dX5_sets_46 rfl ?_
  refine g_iconst C (3 : Int32) dX5_sets_48 (by decide) ?_
  refine g_iadd C dX5_sets_49 ?_
  refine g_iload C 7 dX5_sets_50 rfl ?_
  refine g_iast C (C.win (by decide) (by decide)) (fun _ => rfl) hw.1 dX5_sets_52 ?_
  replace hw := hw.2
  refine g_aload_n C 1 dX5_sets_53 rfl rfl ?_
  refine g_get C inX5 (C.win (by decide) (by decide)) rfl rfl 3 (by decide) tw_626 rfl dX5_sets_54 ?_
  refine g_iload C 0 dX5_sets_57 rfl ?_
  refine g_iconst C (4 : Int32) dX5_sets_59 (by decide) ?_
  refine g_iadd C dX5_sets_60 ?_
  refine g_iload C 8 dX5_sets_61 rfl ?_
  refine g_iast C (C.win (by decide) (by decide)) (fun _ => rfl) hw.1 dX5_sets_63 ?_
  replace hw := hw.2
  exact g_vret C hr hlk hw dX5_sets_64

set_option maxHeartbeats 4000000 in
set_option maxRecDepth 100000 in
theorem c_X5_in (l : Launch) (G : Gp) (hO : gOK G) (hwin : ∀ k, 17 ≤ k → k < 25 → k ∈ gks G) {x0 : Int32} {x1 : Int32} {x2 : Int32}  {st : St} {Q : Int32 → St → Prop} (hw : wp_X5_in x0 x1 x2 st Q) : MI l G yX5_in cX5_in 3 (some .boolean) { frames := 0, cells := 0, slots := 0, locals := 0 } [.int x0, .int x1, .int x2] st Q := by
  refine MI.of (own := RX5) (lo := 17) (hi := 25) hO hwin (by decide) rfl (Nat.le_of_ble_eq_true rfl) (fun p e s m args below meth c C hr hlk => ?_)
  refine g_lv (lv' := [(0, .int x0), (1, .int x1), (2, .int x2)]) rfl ?_
  unfold wp_X5_in at hw
  refine g_iload_n C 0 dX5_in_0 rfl rfl ?_
  refine g_iload_n C 1 dX5_in_1 rfl rfl ?_
  refine g_icmp_lt C 14 dX5_in_2 (by decide) (fun c_2 => ?_) (fun c_2 => ?_)
  · replace hw := hw.1 c_2
    refine g_iconst C (0 : Int32) dX5_in_14 (by decide) ?_
    exact g_zret C hr hlk rfl hw dX5_in_15
  · replace hw := hw.2 c_2
    refine g_iload_n C 0 dX5_in_5 rfl rfl ?_
    refine g_iload_n C 2 dX5_in_6 rfl rfl ?_
    refine g_icmp_gt C 14 dX5_in_7 (by decide) (fun c_1 => ?_) (fun c_1 => ?_)
    · replace hw := hw.1 c_1
      refine g_iconst C (0 : Int32) dX5_in_14 (by decide) ?_
      exact g_zret C hr hlk rfl hw dX5_in_15
    · replace hw := hw.2 c_1
      refine g_iconst C (1 : Int32) dX5_in_10 (by decide) ?_
      refine g_goto C 15 dX5_in_11 (by decide) ?_
      exact g_zret C hr hlk rfl hw dX5_in_15

set_option maxHeartbeats 4000000 in
set_option maxRecDepth 100000 in
theorem c_X5_has (l : Launch) (G : Gp) (hO : gOK G) (hwin : ∀ k, 17 ≤ k → k < 25 → k ∈ gks G) {x0 : Int32} {x1 : Int32}  {st : St} {Q : Int32 → St → Prop} (hw : wp_X5_has x0 x1 st Q) : MI l G yX5_has cX5_has 2 (some .boolean) { frames := 0, cells := 0, slots := 0, locals := 0 } [.int x0, .int x1] st Q := by
  refine MI.of (own := RX5) (lo := 17) (hi := 25) hO hwin (by decide) rfl (Nat.le_of_ble_eq_true rfl) (fun p e s m args below meth c C hr hlk => ?_)
  refine g_lv (lv' := [(0, .int x0), (1, .int x1)]) rfl ?_
  unfold wp_X5_has at hw
  refine g_iload_n C 0 dX5_has_0 rfl rfl ?_
  refine g_iload_n C 1 dX5_has_1 rfl rfl ?_
  refine g_ishr C dX5_has_2 ?_
  refine g_iconst C (1 : Int32) dX5_has_3 (by decide) ?_
  refine g_iand C dX5_has_4 ?_
  refine g_iconst C (1 : Int32) dX5_has_5 (by decide) ?_
  refine g_icmp_ne C 13 dX5_has_6 (by decide) (fun c_1 => ?_) (fun c_1 => ?_)
  · replace hw := hw.2 c_1
    refine g_iconst C (0 : Int32) dX5_has_13 (by decide) ?_
    exact g_zret C hr hlk rfl hw dX5_has_14
  · replace hw := hw.1 c_1
    refine g_iconst C (1 : Int32) dX5_has_9 (by decide) ?_
    refine g_goto C 14 dX5_has_10 (by decide) ?_
    exact g_zret C hr hlk rfl hw dX5_has_14

set_option maxHeartbeats 4000000 in
set_option maxRecDepth 100000 in
theorem c_X5_valuesOf (l : Launch) (G : Gp) (hO : gOK G) (hwin : ∀ k, 17 ≤ k → k < 25 → k ∈ gks G) {x0 : Int32}  {st : St} {Q : Int32 → St → Prop} (hw : wp_X5_valuesOf x0 st Q) : MI l G yX5_valuesOf cX5_valuesOf 1 (some .int) { frames := 0, cells := 0, slots := 0, locals := 0 } [.int x0] st Q := by
  refine MI.of (own := RX5) (lo := 17) (hi := 25) hO hwin (by decide) rfl (Nat.le_of_ble_eq_true rfl) (fun p e s m args below meth c C hr hlk => ?_)
  refine g_lv (lv' := [(0, .int x0)]) rfl ?_
  unfold wp_X5_valuesOf at hw
  refine g_iload_n C 0 dX5_valuesOf_0 rfl rfl ?_
  refine g_if_eq C 9 dX5_valuesOf_1 (by decide) (fun c_2 => ?_) (fun c_2 => ?_)
  · replace hw := hw.1 c_2
    refine g_bipush C (8 : Int32) dX5_valuesOf_9 (by decide) ?_
    refine g_goto C 15 dX5_valuesOf_11 (by decide) ?_
    exact g_iret C hr hlk hw dX5_valuesOf_15
  · replace hw := hw.2 c_2
    refine g_iload_n C 0 dX5_valuesOf_4 rfl rfl ?_
    refine g_iconst C (2 : Int32) dX5_valuesOf_5 (by decide) ?_
    refine g_icmp_ne C 14 dX5_valuesOf_6 (by decide) (fun c_1 => ?_) (fun c_1 => ?_)
    · replace hw := hw.2 c_1
      refine g_iconst C (4 : Int32) dX5_valuesOf_14 (by decide) ?_
      exact g_iret C hr hlk hw dX5_valuesOf_15
    · replace hw := hw.1 c_1
      refine g_bipush C (8 : Int32) dX5_valuesOf_9 (by decide) ?_
      refine g_goto C 15 dX5_valuesOf_11 (by decide) ?_
      exact g_iret C hr hlk hw dX5_valuesOf_15

set_option maxHeartbeats 4000000 in
set_option maxRecDepth 100000 in
theorem c_X5_append (l : Launch) (G : Gp) (hO : gOK G) (hwin : ∀ k, 17 ≤ k → k < 25 → k ∈ gks G) {x1 : Int32}  {st : St} {Q : Int32 → St → Prop} (hw : wp_X5_append x1 st Q) : MI l G yX5_append cX5_append 2 (some .int) { frames := 1, cells := 0, slots := 0, locals := 22 } [.ref (gh G 17), .int x1] st Q := by
  refine MI.of (own := RX5) (lo := 17) (hi := 25) hO hwin (by decide) rfl (Nat.le_of_ble_eq_true rfl) (fun p e s m args below meth c C hr hlk => ?_)
  refine g_lv (lv' := [(0, .ref (gh G 17)), (1, .int x1)]) rfl ?_
  unfold wp_X5_append at hw
  refine g_iload_n C 1 dX5_append_0 rfl rfl ?_
  refine g_bipush C (32 : Int32) dX5_append_1 (by decide) ?_
  refine g_bipush C (126 : Int32) dX5_append_3 (by decide) ?_
  refine g_callSi C (c_X5_in l G hO hwin hw) kX5_in tw_661 rfl rfl ⟨Nat.le_of_ble_eq_true rfl, Nat.le_of_ble_eq_true rfl⟩ (As := [.int x1, .int (32 : Int32), .int (126 : Int32)]) (rest := []) rfl rfl (Nat.le_of_ble_eq_true rfl) dX5_append_5 ⟨Nat.le_of_ble_eq_true rfl, Nat.le_of_ble_eq_true rfl⟩ (fun r_2 s_1 hw => ?_)
  refine g_if_ne C 13 dX5_append_8 (by decide) (fun c_4 => ?_) (fun c_4 => ?_)
  · replace hw := hw.2 c_4
    refine g_aload_n C 0 dX5_append_13 rfl rfl ?_
    refine g_get C inX5 (C.win (by decide) (by decide)) rfl rfl 0 (by decide) tw_623 rfl dX5_append_14 ?_
    refine g_sipush C (240 : Int32) dX5_append_17 (by decide) ?_
    refine g_icmp_ne C 26 dX5_append_20 (by decide) (fun c_3 => ?_) (fun c_3 => ?_)
    · replace hw := hw.2 c_3
      refine g_aload_n C 0 dX5_append_26 rfl rfl ?_
      refine g_get C inX5 (C.win (by decide) (by decide)) rfl rfl 1 (by decide) tw_624 rfl dX5_append_27 ?_
      refine g_aload_n C 0 dX5_append_30 rfl rfl ?_
      refine g_get C inX5 (C.win (by decide) (by decide)) rfl rfl 0 (by decide) tw_623 rfl dX5_append_31 ?_
      refine g_iload_n C 1 dX5_append_34 rfl rfl ?_
      refine g_iast C (C.win (by decide) (by decide)) (fun _ => rfl) hw.1 dX5_append_35 ?_
      replace hw := hw.2
      refine g_aload_n C 0 dX5_append_36 rfl rfl ?_
      refine g_dup C dX5_append_37 rfl ?_
      refine g_get C inX5 (C.win (by decide) (by decide)) rfl rfl 0 (by decide) tw_623 rfl dX5_append_38 ?_
      refine g_iconst C (1 : Int32) dX5_append_41 (by decide) ?_
      refine g_iadd C dX5_append_42 ?_
      refine g_put (ty := .int) (((up2 s_1 18 (s_1 17 0).toNatClampNeg x1) 17 0) + (1 : Int32)) C inX5 tyX5_ok nmX5 (C.win (by decide) (by decide)) rfl rfl 0 (by decide) tw_623 rfl (by decide +kernel) rfl rfl (Nat.le_of_ble_eq_true rfl) rfl dX5_append_43 ?_
      refine g_aload_n C 0 dX5_append_46 rfl rfl ?_
      refine g_get C inX5 (C.win (by decide) (by decide)) rfl rfl 0 (by decide) tw_623 rfl dX5_append_47 ?_
      exact g_iret C hr hlk hw dX5_append_50
    · replace hw := hw.1 c_3
      refine g_bipush C (-2 : Int32) dX5_append_23 (by decide) ?_
      exact g_iret C hr hlk hw dX5_append_25
  · replace hw := hw.1 c_4
    refine g_iconst C (-1 : Int32) dX5_append_11 (by decide) ?_
    exact g_iret C hr hlk hw dX5_append_12

set_option maxHeartbeats 4000000 in
set_option maxRecDepth 100000 in
theorem c_X5_clearText (l : Launch) (G : Gp) (hO : gOK G) (hwin : ∀ k, 17 ≤ k → k < 25 → k ∈ gks G)   {st : St} {Q : Int32 → St → Prop} (hw : wp_X5_clearText  st Q) : MI l G yX5_clearText cX5_clearText 2 (some .int) { frames := 0, cells := 0, slots := 0, locals := 0 } [.ref (gh G 17)] st Q := by
  refine MI.of (own := RX5) (lo := 17) (hi := 25) hO hwin (by decide) rfl (Nat.le_of_ble_eq_true rfl) (fun p e s m args below meth c C hr hlk => ?_)
  refine g_lv (lv' := [(0, .ref (gh G 17))]) rfl ?_
  unfold wp_X5_clearText at hw
  refine g_aload_n C 0 dX5_clearText_0 rfl rfl ?_
  refine g_get C inX5 (C.win (by decide) (by decide)) rfl rfl 0 (by decide) tw_623 rfl dX5_clearText_1 ?_
  refine g_topi (fun x1_1 ex1_1 => ?_)
  replace hw := hw x1_1 ex1_1
  refine g_istore_n C dX5_clearText_4 rfl (by decide) (lv' := [(1, .int x1_1), (0, .ref (gh G 17))]) rfl ?_
  refine g_aload_n C 1 dX5_clearText_5 rfl rfl ?_
  refine g_iconst C (0 : Int32) dX5_clearText_6 (by decide) ?_
  refine g_put (ty := .int) (0 : Int32) C inX5 tyX5_ok nmX5 (C.win (by decide) (by decide)) rfl rfl 0 (by decide) tw_623 rfl (by decide +kernel) rfl rfl (Nat.le_of_ble_eq_true rfl) rfl dX5_clearText_7 ?_
  refine g_iload_n C 0 dX5_clearText_10 rfl rfl ?_
  exact g_iret C hr hlk hw dX5_clearText_11

set_option maxHeartbeats 4000000 in
set_option maxRecDepth 100000 in
theorem c_X5_next (l : Launch) (G : Gp) (hO : gOK G) (hwin : ∀ k, 17 ≤ k → k < 25 → k ∈ gks G)   {st : St} {Q : Int32 → St → Prop} (hw : wp_X5_next  st Q) : MI l G yX5_next cX5_next 1 (some .int) { frames := 0, cells := 0, slots := 0, locals := 0 } [.ref (gh G 17)] st Q := by
  refine MI.of (own := RX5) (lo := 17) (hi := 25) hO hwin (by decide) rfl (Nat.le_of_ble_eq_true rfl) (fun p e s m args below meth c C hr hlk => ?_)
  refine g_lv (lv' := [(0, .ref (gh G 17))]) rfl ?_
  unfold wp_X5_next at hw
  refine g_aload_n C 0 dX5_next_0 rfl rfl ?_
  refine g_get C inX5 (C.win (by decide) (by decide)) rfl rfl 8 (by decide) tw_631 rfl dX5_next_1 ?_
  refine g_aload_n C 0 dX5_next_4 rfl rfl ?_
  refine g_get C inX5 (C.win (by decide) (by decide)) rfl rfl 0 (by decide) tw_623 rfl dX5_next_5 ?_
  refine g_icmp_ge C 23 dX5_next_8 (by decide) (fun c_1 => ?_) (fun c_1 => ?_)
  · replace hw := hw.1 c_1
    refine g_iconst C (0 : Int32) dX5_next_23 (by decide) ?_
    exact g_iret C hr hlk hw dX5_next_24
  · replace hw := hw.2 c_1
    refine g_aload_n C 0 dX5_next_11 rfl rfl ?_
    refine g_get C inX5 (C.win (by decide) (by decide)) rfl rfl 1 (by decide) tw_624 rfl dX5_next_12 ?_
    refine g_aload_n C 0 dX5_next_15 rfl rfl ?_
    refine g_get C inX5 (C.win (by decide) (by decide)) rfl rfl 8 (by decide) tw_631 rfl dX5_next_16 ?_
    refine g_iald C (C.win (by decide) (by decide)) rfl hw.1 dX5_next_19 ?_
    replace hw := hw.2
    refine g_goto C 24 dX5_next_20 (by decide) ?_
    exact g_iret C hr hlk hw dX5_next_24

set_option maxHeartbeats 4000000 in
set_option maxRecDepth 100000 in
theorem c_X5_is (l : Launch) (G : Gp) (hO : gOK G) (hwin : ∀ k, 17 ≤ k → k < 25 → k ∈ gks G) {x1 : Int32} {x2 : Int32}  {st : St} {Q : Int32 → St → Prop} (hw : wp_X5_is x1 x2 st Q) : MI l G yX5_is cX5_is 3 (some .boolean) { frames := 0, cells := 0, slots := 0, locals := 0 } [.ref (gh G 17), .int x1, .int x2] st Q := by
  refine MI.of (own := RX5) (lo := 17) (hi := 25) hO hwin (by decide) rfl (Nat.le_of_ble_eq_true rfl) (fun p e s m args below meth c C hr hlk => ?_)
  refine g_lv (lv' := [(0, .ref (gh G 17)), (1, .int x1), (2, .int x2)]) rfl ?_
  unfold wp_X5_is at hw
  refine g_aload_n C 0 dX5_is_0 rfl rfl ?_
  refine g_get C inX5 (C.win (by decide) (by decide)) rfl rfl 8 (by decide) tw_631 rfl dX5_is_1 ?_
  refine g_iload_n C 1 dX5_is_4 rfl rfl ?_
  refine g_iadd C dX5_is_5 ?_
  refine g_aload_n C 0 dX5_is_6 rfl rfl ?_
  refine g_get C inX5 (C.win (by decide) (by decide)) rfl rfl 0 (by decide) tw_623 rfl dX5_is_7 ?_
  refine g_icmp_ge C 32 dX5_is_10 (by decide) (fun c_2 => ?_) (fun c_2 => ?_)
  · replace hw := hw.1 c_2
    refine g_iconst C (0 : Int32) dX5_is_32 (by decide) ?_
    exact g_zret C hr hlk rfl hw dX5_is_33
  · replace hw := hw.2 c_2
    refine g_aload_n C 0 dX5_is_13 rfl rfl ?_
    refine g_get C inX5 (C.win (by decide) (by decide)) rfl rfl 1 (by decide) tw_624 rfl dX5_is_14 ?_
    refine g_aload_n C 0 dX5_is_17 rfl rfl ?_
    refine g_get C inX5 (C.win (by decide) (by decide)) rfl rfl 8 (by decide) tw_631 rfl dX5_is_18 ?_
    refine g_iload_n C 1 dX5_is_21 rfl rfl ?_
    refine g_iadd C dX5_is_22 ?_
    refine g_iald C (C.win (by decide) (by decide)) rfl hw.1 dX5_is_23 ?_
    replace hw := hw.2
    refine g_iload_n C 2 dX5_is_24 rfl rfl ?_
    refine g_icmp_ne C 32 dX5_is_25 (by decide) (fun c_1 => ?_) (fun c_1 => ?_)
    · replace hw := hw.2 c_1
      refine g_iconst C (0 : Int32) dX5_is_32 (by decide) ?_
      exact g_zret C hr hlk rfl hw dX5_is_33
    · replace hw := hw.1 c_1
      refine g_iconst C (1 : Int32) dX5_is_28 (by decide) ?_
      refine g_goto C 33 dX5_is_29 (by decide) ?_
      exact g_zret C hr hlk rfl hw dX5_is_33

set_option maxHeartbeats 4000000 in
set_option maxRecDepth 100000 in
theorem c_X5_are (l : Launch) (G : Gp) (hO : gOK G) (hwin : ∀ k, 17 ≤ k → k < 25 → k ∈ gks G) {x1 : Int32} {x2 : Int32} {x3 : Int32} {x4 : Int32} {x5 : Int32}  {st : St} {Q : Int32 → St → Prop} (hw : wp_X5_are x1 x2 x3 x4 x5 st Q) : MI l G yX5_are cX5_are 6 (some .boolean) { frames := 1, cells := 0, slots := 0, locals := 22 } [.ref (gh G 17), .int x1, .int x2, .int x3, .int x4, .int x5] st Q := by
  refine MI.of (own := RX5) (lo := 17) (hi := 25) hO hwin (by decide) rfl (Nat.le_of_ble_eq_true rfl) (fun p e s m args below meth c C hr hlk => ?_)
  refine g_lv (lv' := [(0, .ref (gh G 17)), (1, .int x1), (2, .int x2), (3, .int x3), (4, .int x4), (5, .int x5)]) rfl ?_
  unfold wp_X5_are at hw
  refine g_aload_n C 0 dX5_are_0 rfl rfl ?_
  refine g_iload_n C 1 dX5_are_1 rfl rfl ?_
  refine g_iload_n C 2 dX5_are_2 rfl rfl ?_
  refine g_callVi C (c_X5_is l G hO hwin hw) kX5_is tw_680 (Rv.of C (C.win (by decide) (by decide)) rfl (ci := 5) rfl) rfl rfl ⟨Nat.le_of_ble_eq_true rfl, Nat.le_of_ble_eq_true rfl⟩ (As := [.int x1, .int x2]) (rest := []) rfl rfl (Nat.le_of_ble_eq_true rfl) dX5_are_3 ⟨Nat.le_of_ble_eq_true rfl, Nat.le_of_ble_eq_true rfl⟩ (fun r_2 s_1 hw => ?_)
  refine g_if_eq C 48 dX5_are_6 (by decide) (fun c_12 => ?_) (fun c_12 => ?_)
  · replace hw := hw.1 c_12
    refine g_iconst C (0 : Int32) dX5_are_48 (by decide) ?_
    exact g_zret C hr hlk rfl hw dX5_are_49
  · replace hw := hw.2 c_12
    refine g_aload_n C 0 dX5_are_9 rfl rfl ?_
    refine g_iload_n C 1 dX5_are_10 rfl rfl ?_
    refine g_iconst C (1 : Int32) dX5_are_11 (by decide) ?_
    refine g_iadd C dX5_are_12 ?_
    refine g_iload_n C 3 dX5_are_13 rfl rfl ?_
    refine g_callVi C (c_X5_is l G hO hwin hw) kX5_is tw_680 (Rv.of C (C.win (by decide) (by decide)) rfl (ci := 5) rfl) rfl rfl ⟨Nat.le_of_ble_eq_true rfl, Nat.le_of_ble_eq_true rfl⟩ (As := [.int (x1 + (1 : Int32)), .int x3]) (rest := []) rfl rfl (Nat.le_of_ble_eq_true rfl) dX5_are_14 ⟨Nat.le_of_ble_eq_true rfl, Nat.le_of_ble_eq_true rfl⟩ (fun r_4 s_3 hw => ?_)
    refine g_if_eq C 48 dX5_are_17 (by decide) (fun c_11 => ?_) (fun c_11 => ?_)
    · replace hw := hw.1 c_11
      refine g_iconst C (0 : Int32) dX5_are_48 (by decide) ?_
      exact g_zret C hr hlk rfl hw dX5_are_49
    · replace hw := hw.2 c_11
      refine g_aload_n C 0 dX5_are_20 rfl rfl ?_
      refine g_iload_n C 1 dX5_are_21 rfl rfl ?_
      refine g_iconst C (2 : Int32) dX5_are_22 (by decide) ?_
      refine g_iadd C dX5_are_23 ?_
      refine g_iload C 4 dX5_are_24 rfl ?_
      refine g_callVi C (c_X5_is l G hO hwin hw) kX5_is tw_680 (Rv.of C (C.win (by decide) (by decide)) rfl (ci := 5) rfl) rfl rfl ⟨Nat.le_of_ble_eq_true rfl, Nat.le_of_ble_eq_true rfl⟩ (As := [.int (x1 + (2 : Int32)), .int x4]) (rest := []) rfl rfl (Nat.le_of_ble_eq_true rfl) dX5_are_26 ⟨Nat.le_of_ble_eq_true rfl, Nat.le_of_ble_eq_true rfl⟩ (fun r_6 s_5 hw => ?_)
      refine g_if_eq C 48 dX5_are_29 (by decide) (fun c_10 => ?_) (fun c_10 => ?_)
      · replace hw := hw.1 c_10
        refine g_iconst C (0 : Int32) dX5_are_48 (by decide) ?_
        exact g_zret C hr hlk rfl hw dX5_are_49
      · replace hw := hw.2 c_10
        refine g_aload_n C 0 dX5_are_32 rfl rfl ?_
        refine g_iload_n C 1 dX5_are_33 rfl rfl ?_
        refine g_iconst C (3 : Int32) dX5_are_34 (by decide) ?_
        refine g_iadd C dX5_are_35 ?_
        refine g_iload C 5 dX5_are_36 rfl ?_
        refine g_callVi C (c_X5_is l G hO hwin hw) kX5_is tw_680 (Rv.of C (C.win (by decide) (by decide)) rfl (ci := 5) rfl) rfl rfl ⟨Nat.le_of_ble_eq_true rfl, Nat.le_of_ble_eq_true rfl⟩ (As := [.int (x1 + (3 : Int32)), .int x5]) (rest := []) rfl rfl (Nat.le_of_ble_eq_true rfl) dX5_are_38 ⟨Nat.le_of_ble_eq_true rfl, Nat.le_of_ble_eq_true rfl⟩ (fun r_8 s_7 hw => ?_)
        refine g_if_eq C 48 dX5_are_41 (by decide) (fun c_9 => ?_) (fun c_9 => ?_)
        · replace hw := hw.1 c_9
          refine g_iconst C (0 : Int32) dX5_are_48 (by decide) ?_
          exact g_zret C hr hlk rfl hw dX5_are_49
        · replace hw := hw.2 c_9
          refine g_iconst C (1 : Int32) dX5_are_44 (by decide) ?_
          refine g_goto C 49 dX5_are_45 (by decide) ?_
          exact g_zret C hr hlk rfl hw dX5_are_49

set_option maxHeartbeats 4000000 in
set_option maxRecDepth 100000 in
theorem c_X5_word (l : Launch) (G : Gp) (hO : gOK G) (hwin : ∀ k, 17 ≤ k → k < 25 → k ∈ gks G) {x1 : Int32} {x2 : Int32} {x3 : Int32} {x4 : Int32} {x5 : Int32} {x6 : Int32} {x7 : Int32}  {st : St} {Q : Int32 → St → Prop} (hw : wp_X5_word x1 x2 x3 x4 x5 x6 x7 st Q) : MI l G yX5_word cX5_word 9 (some .boolean) { frames := 1, cells := 0, slots := 0, locals := 22 } [.ref (gh G 17), .int x1, .int x2, .int x3, .int x4, .int x5, .int x6, .int x7] st Q := by
  refine MI.of (own := RX5) (lo := 17) (hi := 25) hO hwin (by decide) rfl (Nat.le_of_ble_eq_true rfl) (fun p e s m args below meth c C hr hlk => ?_)
  refine g_lv (lv' := [(0, .ref (gh G 17)), (1, .int x1), (2, .int x2), (3, .int x3), (4, .int x4), (5, .int x5), (6, .int x6), (7, .int x7)]) rfl ?_
  unfold wp_X5_word at hw
  obtain ⟨P31, hP31⟩ : ∃ P : St → Prop, P = fun st => WG p l e ({ frames := 1, cells := 0, slots := 0, locals := 22 } : Room) s m args below meth c 0 0 (MQ below (va_Qi Q (gB G) (gA G)) args s 0 0 (gA G)) G 9 31 [(0, .ref (gh G 17)), (1, .int x1), (2, .int x2), (3, .int x3), (4, .int x4), (5, .int x5), (6, .int x6), (7, .int x7)] [] st := ⟨_, rfl⟩
  obtain ⟨P32, hP32⟩ : ∃ P : Int32 → St → Prop, P = fun y0 st => WG p l e ({ frames := 1, cells := 0, slots := 0, locals := 22 } : Room) s m args below meth c 0 0 (MQ below (va_Qi Q (gB G) (gA G)) args s 0 0 (gA G)) G 9 32 [(0, .ref (gh G 17)), (1, .int x1), (2, .int x2), (3, .int x3), (4, .int x4), (5, .int x5), (6, .int x6), (7, .int x7)] [.int y0] st := ⟨_, rfl⟩
  obtain ⟨P55, hP55⟩ : ∃ P : St → Prop, P = fun st => WG p l e ({ frames := 1, cells := 0, slots := 0, locals := 22 } : Room) s m args below meth c 0 0 (MQ below (va_Qi Q (gB G) (gA G)) args s 0 0 (gA G)) G 9 55 [(0, .ref (gh G 17)), (1, .int x1), (2, .int x2), (3, .int x3), (4, .int x4), (5, .int x5), (6, .int x6), (7, .int x7)] [] st := ⟨_, rfl⟩
  obtain ⟨P71, hP71⟩ : ∃ P : St → Prop, P = fun st => WG p l e ({ frames := 1, cells := 0, slots := 0, locals := 22 } : Room) s m args below meth c 0 0 (MQ below (va_Qi Q (gB G) (gA G)) args s 0 0 (gA G)) G 9 71 [(0, .ref (gh G 17)), (1, .int x1), (2, .int x2), (3, .int x3), (4, .int x4), (5, .int x5), (6, .int x6), (7, .int x7)] [] st := ⟨_, rfl⟩
  obtain ⟨P92, hP92⟩ : ∃ P : St → Prop, P = fun st => WG p l e ({ frames := 1, cells := 0, slots := 0, locals := 22 } : Room) s m args below meth c 0 0 (MQ below (va_Qi Q (gB G) (gA G)) args s 0 0 (gA G)) G 9 92 [(0, .ref (gh G 17)), (1, .int x1), (2, .int x2), (3, .int x3), (4, .int x4), (5, .int x5), (6, .int x6), (7, .int x7)] [] st := ⟨_, rfl⟩
  obtain ⟨P93, hP93⟩ : ∃ P : Int32 → St → Prop, P = fun y0 st => WG p l e ({ frames := 1, cells := 0, slots := 0, locals := 22 } : Room) s m args below meth c 0 0 (MQ below (va_Qi Q (gB G) (gA G)) args s 0 0 (gA G)) G 9 93 [(0, .ref (gh G 17)), (1, .int x1), (2, .int x2), (3, .int x3), (4, .int x4), (5, .int x5), (6, .int x6), (7, .int x7)] [.int y0] st := ⟨_, rfl⟩
  replace hw := hw P31 P32 P55 P71 P92 P93
  replace hw := hw (by
    intro st hw
    rw [hP31]
    refine g_iconst C (0 : Int32) dX5_word_31 (by decide) ?_
    rw [hP32] at hw
    exact g_perm [0, 1, 2, 3, 4, 5, 6, 7] rfl (hw))
  replace hw := hw (by
    intro y0 st hw
    rw [hP32]
    refine g_istore C dX5_word_32 (by decide) (lv' := [(8, .int y0), (0, .ref (gh G 17)), (1, .int x1), (2, .int x2), (3, .int x3), (4, .int x4), (5, .int x5), (6, .int x6), (7, .int x7)]) rfl ?_
    refine g_iload C 0 dX5_word_34 rfl ?_
    refine g_if_eq C 92 dX5_word_36 (by decide) (fun c_5 => ?_) (fun c_5 => ?_)
    · replace hw := hw.1 c_5
      rw [hP92] at hw
      exact g_perm [1, 2, 3, 4, 5, 6, 7, 8] rfl (hw)
    · replace hw := hw.2 c_5
      refine g_iload C 8 dX5_word_39 rfl ?_
      refine g_iconst C (4 : Int32) dX5_word_41 (by decide) ?_
      refine g_icmp_lt C 55 dX5_word_42 (by decide) (fun c_4 => ?_) (fun c_4 => ?_)
      · replace hw := hw.1 c_4
        rw [hP55] at hw
        exact g_perm [1, 2, 3, 4, 5, 6, 7, 8] rfl (hw)
      · replace hw := hw.2 c_4
        refine g_aload_n C 1 dX5_word_45 rfl rfl ?_
        refine g_iconst C (3 : Int32) dX5_word_46 (by decide) ?_
        refine g_iload C 5 dX5_word_47 rfl ?_
        refine g_callVi C (c_X5_is l G hO hwin hw) kX5_is tw_680 (Rv.of C (C.win (by decide) (by decide)) rfl (ci := 5) rfl) rfl rfl ⟨Nat.le_of_ble_eq_true rfl, Nat.le_of_ble_eq_true rfl⟩ (As := [.int (3 : Int32), .int x4]) (rest := []) rfl rfl (Nat.le_of_ble_eq_true rfl) dX5_word_49 ⟨Nat.le_of_ble_eq_true rfl, Nat.le_of_ble_eq_true rfl⟩ (fun r_2 s_1 hw => ?_)
        refine g_if_eq C 92 dX5_word_52 (by decide) (fun c_3 => ?_) (fun c_3 => ?_)
        · replace hw := hw.1 c_3
          rw [hP92] at hw
          exact g_perm [1, 2, 3, 4, 5, 6, 7, 8] rfl (hw)
        · replace hw := hw.2 c_3
          rw [hP55] at hw
          exact g_perm [1, 2, 3, 4, 5, 6, 7, 8] rfl (hw))
  replace hw := hw (by
    intro st hw
    rw [hP55]
    refine g_iload C 7 dX5_word_55 rfl ?_
    refine g_iconst C (5 : Int32) dX5_word_57 (by decide) ?_
    refine g_icmp_lt C 71 dX5_word_58 (by decide) (fun c_9 => ?_) (fun c_9 => ?_)
    · replace hw := hw.1 c_9
      rw [hP71] at hw
      exact g_perm [0, 1, 2, 3, 4, 5, 6, 7] rfl (hw)
    · replace hw := hw.2 c_9
      refine g_aload_n C 0 dX5_word_61 rfl rfl ?_
      refine g_iconst C (4 : Int32) dX5_word_62 (by decide) ?_
      refine g_iload C 5 dX5_word_63 rfl ?_
      refine g_callVi C (c_X5_is l G hO hwin hw) kX5_is tw_680 (Rv.of C (C.win (by decide) (by decide)) rfl (ci := 5) rfl) rfl rfl ⟨Nat.le_of_ble_eq_true rfl, Nat.le_of_ble_eq_true rfl⟩ (As := [.int (4 : Int32), .int x5]) (rest := []) rfl rfl (Nat.le_of_ble_eq_true rfl) dX5_word_65 ⟨Nat.le_of_ble_eq_true rfl, Nat.le_of_ble_eq_true rfl⟩ (fun r_7 s_6 hw => ?_)
      refine g_if_eq C 92 dX5_word_68 (by decide) (fun c_8 => ?_) (fun c_8 => ?_)
      · replace hw := hw.1 c_8
        rw [hP92] at hw
        exact g_perm [0, 1, 2, 3, 4, 5, 6, 7] rfl (hw)
      · replace hw := hw.2 c_8
        rw [hP71] at hw
        exact g_perm [0, 1, 2, 3, 4, 5, 6, 7] rfl (hw))
  replace hw := hw (by
    intro st hw
    rw [hP71]
    refine g_iload C 7 dX5_word_71 rfl ?_
    refine g_bipush C (6 : Int32) dX5_word_73 (by decide) ?_
    refine g_icmp_lt C 88 dX5_word_75 (by decide) (fun c_13 => ?_) (fun c_13 => ?_)
    · replace hw := hw.1 c_13
      refine g_iconst C (1 : Int32) dX5_word_88 (by decide) ?_
      refine g_goto C 93 dX5_word_89 (by decide) ?_
      rw [hP93] at hw
      exact g_perm [0, 1, 2, 3, 4, 5, 6, 7] rfl (hw)
    · replace hw := hw.2 c_13
      refine g_aload_n C 0 dX5_word_78 rfl rfl ?_
      refine g_iconst C (5 : Int32) dX5_word_79 (by decide) ?_
      refine g_iload C 6 dX5_word_80 rfl ?_
      refine g_callVi C (c_X5_is l G hO hwin hw) kX5_is tw_680 (Rv.of C (C.win (by decide) (by decide)) rfl (ci := 5) rfl) rfl rfl ⟨Nat.le_of_ble_eq_true rfl, Nat.le_of_ble_eq_true rfl⟩ (As := [.int (5 : Int32), .int x6]) (rest := []) rfl rfl (Nat.le_of_ble_eq_true rfl) dX5_word_82 ⟨Nat.le_of_ble_eq_true rfl, Nat.le_of_ble_eq_true rfl⟩ (fun r_11 s_10 hw => ?_)
      refine g_if_eq C 92 dX5_word_85 (by decide) (fun c_12 => ?_) (fun c_12 => ?_)
      · replace hw := hw.1 c_12
        rw [hP92] at hw
        exact g_perm [0, 1, 2, 3, 4, 5, 6, 7] rfl (hw)
      · replace hw := hw.2 c_12
        refine g_iconst C (1 : Int32) dX5_word_88 (by decide) ?_
        refine g_goto C 93 dX5_word_89 (by decide) ?_
        rw [hP93] at hw
        exact g_perm [0, 1, 2, 3, 4, 5, 6, 7] rfl (hw))
  replace hw := hw (by
    intro st hw
    rw [hP92]
    refine g_iconst C (0 : Int32) dX5_word_92 (by decide) ?_
    rw [hP93] at hw
    exact g_perm [0, 1, 2, 3, 4, 5, 6, 7] rfl (hw))
  replace hw := hw (by
    intro y0 st hw
    rw [hP93]
    refine g_istore C dX5_word_93 (by decide) (lv' := [(8, .int y0), (0, .ref (gh G 17)), (1, .int x1), (2, .int x2), (3, .int x3), (4, .int x4), (5, .int x5), (6, .int x6), (7, .int x7)]) rfl ?_
    refine g_aload_n C 1 dX5_word_95 rfl rfl ?_
    refine g_dup C dX5_word_96 rfl ?_
    refine g_get C inX5 (C.win (by decide) (by decide)) rfl rfl 8 (by decide) tw_631 rfl dX5_word_97 ?_
    refine g_iload C 0 dX5_word_100 rfl ?_
    refine g_if_eq C 110 dX5_word_102 (by decide) (fun c_14 => ?_) (fun c_14 => ?_)
    · replace hw := hw.1 c_14
      refine g_iconst C (0 : Int32) dX5_word_110 (by decide) ?_
      refine g_iadd C dX5_word_111 ?_
      refine g_put (ty := .int) ((st 17 8) + (0 : Int32)) C inX5 tyX5_ok nmX5 (C.win (by decide) (by decide)) rfl rfl 8 (by decide) tw_631 rfl (by decide +kernel) rfl rfl (Nat.le_of_ble_eq_true rfl) rfl dX5_word_112 ?_
      refine g_iload C 0 dX5_word_115 rfl ?_
      exact g_zret C hr hlk (nar_bool hw.1) hw.2 dX5_word_117
    · replace hw := hw.2 c_14
      refine g_iload C 8 dX5_word_105 rfl ?_
      refine g_goto C 111 dX5_word_107 (by decide) ?_
      refine g_iadd C dX5_word_111 ?_
      refine g_put (ty := .int) ((st 17 8) + x7) C inX5 tyX5_ok nmX5 (C.win (by decide) (by decide)) rfl rfl 8 (by decide) tw_631 rfl (by decide +kernel) rfl rfl (Nat.le_of_ble_eq_true rfl) rfl dX5_word_112 ?_
      refine g_iload C 0 dX5_word_115 rfl ?_
      exact g_zret C hr hlk (nar_bool hw.1) hw.2 dX5_word_117)
  refine g_aload_n C 0 dX5_word_0 rfl rfl ?_
  refine g_iconst C (0 : Int32) dX5_word_1 (by decide) ?_
  refine g_iload_n C 1 dX5_word_2 rfl rfl ?_
  refine g_callVi C (c_X5_is l G hO hwin hw) kX5_is tw_680 (Rv.of C (C.win (by decide) (by decide)) rfl (ci := 5) rfl) rfl rfl ⟨Nat.le_of_ble_eq_true rfl, Nat.le_of_ble_eq_true rfl⟩ (As := [.int (0 : Int32), .int x1]) (rest := []) rfl rfl (Nat.le_of_ble_eq_true rfl) dX5_word_3 ⟨Nat.le_of_ble_eq_true rfl, Nat.le_of_ble_eq_true rfl⟩ (fun r_16 s_15 hw => ?_)
  refine g_if_eq C 31 dX5_word_6 (by decide) (fun c_23 => ?_) (fun c_23 => ?_)
  · replace hw := hw.1 c_23
    rw [hP31] at hw
    exact g_perm [0, 1, 2, 3, 4, 5, 6, 7] rfl (hw)
  · replace hw := hw.2 c_23
    refine g_aload_n C 0 dX5_word_9 rfl rfl ?_
    refine g_iconst C (1 : Int32) dX5_word_10 (by decide) ?_
    refine g_iload_n C 2 dX5_word_11 rfl rfl ?_
    refine g_callVi C (c_X5_is l G hO hwin hw) kX5_is tw_680 (Rv.of C (C.win (by decide) (by decide)) rfl (ci := 5) rfl) rfl rfl ⟨Nat.le_of_ble_eq_true rfl, Nat.le_of_ble_eq_true rfl⟩ (As := [.int (1 : Int32), .int x2]) (rest := []) rfl rfl (Nat.le_of_ble_eq_true rfl) dX5_word_12 ⟨Nat.le_of_ble_eq_true rfl, Nat.le_of_ble_eq_true rfl⟩ (fun r_18 s_17 hw => ?_)
    refine g_if_eq C 31 dX5_word_15 (by decide) (fun c_22 => ?_) (fun c_22 => ?_)
    · replace hw := hw.1 c_22
      rw [hP31] at hw
      exact g_perm [0, 1, 2, 3, 4, 5, 6, 7] rfl (hw)
    · replace hw := hw.2 c_22
      refine g_aload_n C 0 dX5_word_18 rfl rfl ?_
      refine g_iconst C (2 : Int32) dX5_word_19 (by decide) ?_
      refine g_iload_n C 3 dX5_word_20 rfl rfl ?_
      refine g_callVi C (c_X5_is l G hO hwin hw) kX5_is tw_680 (Rv.of C (C.win (by decide) (by decide)) rfl (ci := 5) rfl) rfl rfl ⟨Nat.le_of_ble_eq_true rfl, Nat.le_of_ble_eq_true rfl⟩ (As := [.int (2 : Int32), .int x3]) (rest := []) rfl rfl (Nat.le_of_ble_eq_true rfl) dX5_word_21 ⟨Nat.le_of_ble_eq_true rfl, Nat.le_of_ble_eq_true rfl⟩ (fun r_20 s_19 hw => ?_)
      refine g_if_eq C 31 dX5_word_24 (by decide) (fun c_21 => ?_) (fun c_21 => ?_)
      · replace hw := hw.1 c_21
        rw [hP31] at hw
        exact g_perm [0, 1, 2, 3, 4, 5, 6, 7] rfl (hw)
      · replace hw := hw.2 c_21
        refine g_iconst C (1 : Int32) dX5_word_27 (by decide) ?_
        refine g_goto C 32 dX5_word_28 (by decide) ?_
        rw [hP32] at hw
        exact g_perm [0, 1, 2, 3, 4, 5, 6, 7] rfl (hw)

set_option maxHeartbeats 4000000 in
set_option maxRecDepth 100000 in
theorem c_X5_clears (l : Launch) (G : Gp) (hO : gOK G) (hwin : ∀ k, 17 ≤ k → k < 25 → k ∈ gks G)   {st : St} {Q : St → Prop} (hw : wp_X5_clears  st Q) : MV l G yX5_clears cX5_clears 2 { frames := 0, cells := 0, slots := 0, locals := 0 } [.ref (gh G 17)] st Q := by
  refine MV.of (own := RX5) (lo := 17) (hi := 25) hO hwin (by decide) rfl (Nat.le_of_ble_eq_true rfl) (fun p e s m args below meth c C hr hlk => ?_)
  refine g_lv (lv' := [(0, .ref (gh G 17))]) rfl ?_
  unfold wp_X5_clears at hw
  obtain ⟨P2, hP2⟩ : ∃ P : Int32 → St → Prop, P = fun x1 st => WG p l e ({ frames := 0, cells := 0, slots := 0, locals := 0 } : Room) s m args below meth c 0 0 (MQ below (va_Qv Q (gB G) (gA G)) args s 0 0 (gA G)) G 2 2 [(0, .ref (gh G 17)), (1, .int x1)] [] st := ⟨_, rfl⟩
  replace hw := hw P2
  replace hw := hw (by
    intro x1 st hw
    rw [hP2]
    refine g_iload_n C 1 dX5_clears_2 rfl rfl ?_
    refine g_bipush C (84 : Int32) dX5_clears_3 (by decide) ?_
    refine g_icmp_ge C 21 dX5_clears_5 (by decide) (fun c_2 => ?_) (fun c_2 => ?_)
    · replace hw := hw.1 c_2
      exact g_vret C hr hlk hw dX5_clears_21
    · replace hw := hw.2 c_2
      refine g_aload_n C 0 dX5_clears_8 rfl rfl ?_
      refine g_get C inX5 (C.win (by decide) (by decide)) rfl rfl 3 (by decide) tw_626 rfl dX5_clears_9 ?_
      refine g_iload_n C 1 dX5_clears_12 rfl rfl ?_
      refine g_iconst C (0 : Int32) dX5_clears_13 (by decide) ?_
      refine g_iast C (C.win (by decide) (by decide)) (fun _ => rfl) hw.1 dX5_clears_14 ?_
      replace hw := hw.2
      obtain ⟨x1_1, ex1_1⟩ : ∃ z : Int32, z = x1 + (1 : Int32) := ⟨_, rfl⟩
      replace hw := hw x1_1 ex1_1
      refine g_iinc C x1_1 1 dX5_clears_15 rfl ex1_1.symm (by decide) (lv' := [(1, .int x1_1), (0, .ref (gh G 17))]) rfl ?_
      refine g_goto C 2 dX5_clears_18 (by decide) ?_
      rw [hP2] at hw
      exact g_perm [1, 0] rfl (hw))
  refine g_iconst C (0 : Int32) dX5_clears_0 (by decide) ?_
  refine g_istore_n C dX5_clears_1 rfl (by decide) (lv' := [(1, .int (0 : Int32)), (0, .ref (gh G 17))]) rfl ?_
  rw [hP2] at hw
  exact g_perm [1, 0] rfl (hw)

set_option maxHeartbeats 4000000 in
set_option maxRecDepth 100000 in
theorem c_X5_takes (l : Launch) (G : Gp) (hO : gOK G) (hwin : ∀ k, 17 ≤ k → k < 25 → k ∈ gks G)   {st : St} {Q : St → Prop} (hw : wp_X5_takes  st Q) : MV l G yX5_takes cX5_takes 2 { frames := 0, cells := 0, slots := 0, locals := 0 } [.ref (gh G 17)] st Q := by
  refine MV.of (own := RX5) (lo := 17) (hi := 25) hO hwin (by decide) rfl (Nat.le_of_ble_eq_true rfl) (fun p e s m args below meth c C hr hlk => ?_)
  refine g_lv (lv' := [(0, .ref (gh G 17))]) rfl ?_
  unfold wp_X5_takes at hw
  obtain ⟨P2, hP2⟩ : ∃ P : Int32 → St → Prop, P = fun x1 st => WG p l e ({ frames := 0, cells := 0, slots := 0, locals := 0 } : Room) s m args below meth c 0 0 (MQ below (va_Qv Q (gB G) (gA G)) args s 0 0 (gA G)) G 2 2 [(0, .ref (gh G 17)), (1, .int x1)] [] st := ⟨_, rfl⟩
  replace hw := hw P2
  replace hw := hw (by
    intro x1 st hw
    rw [hP2]
    refine g_iload_n C 1 dX5_takes_2 rfl rfl ?_
    refine g_bipush C (84 : Int32) dX5_takes_3 (by decide) ?_
    refine g_icmp_ge C 26 dX5_takes_5 (by decide) (fun c_2 => ?_) (fun c_2 => ?_)
    · replace hw := hw.1 c_2
      refine g_aload_n C 0 dX5_takes_26 rfl rfl ?_
      refine g_iconst C (0 : Int32) dX5_takes_27 (by decide) ?_
      refine g_put (ty := .int) (0 : Int32) C inX5 tyX5_ok nmX5 (C.win (by decide) (by decide)) rfl rfl 5 (by decide) tw_628 rfl (by decide +kernel) rfl rfl (Nat.le_of_ble_eq_true rfl) rfl dX5_takes_28 ?_
      exact g_vret C hr hlk hw dX5_takes_31
    · replace hw := hw.2 c_2
      refine g_aload_n C 0 dX5_takes_8 rfl rfl ?_
      refine g_get C inX5 (C.win (by decide) (by decide)) rfl rfl 2 (by decide) tw_625 rfl dX5_takes_9 ?_
      refine g_iload_n C 1 dX5_takes_12 rfl rfl ?_
      refine g_aload_n C 0 dX5_takes_13 rfl rfl ?_
      refine g_get C inX5 (C.win (by decide) (by decide)) rfl rfl 3 (by decide) tw_626 rfl dX5_takes_14 ?_
      refine g_iload_n C 1 dX5_takes_17 rfl rfl ?_
      refine g_iald C (C.win (by decide) (by decide)) rfl hw.1 dX5_takes_18 ?_
      replace hw := hw.2
      refine g_iast C (C.win (by decide) (by decide)) (fun _ => rfl) hw.1 dX5_takes_19 ?_
      replace hw := hw.2
      obtain ⟨x1_1, ex1_1⟩ : ∃ z : Int32, z = x1 + (1 : Int32) := ⟨_, rfl⟩
      replace hw := hw x1_1 ex1_1
      refine g_iinc C x1_1 1 dX5_takes_20 rfl ex1_1.symm (by decide) (lv' := [(1, .int x1_1), (0, .ref (gh G 17))]) rfl ?_
      refine g_goto C 2 dX5_takes_23 (by decide) ?_
      rw [hP2] at hw
      exact g_perm [1, 0] rfl (hw))
  refine g_iconst C (0 : Int32) dX5_takes_0 (by decide) ?_
  refine g_istore_n C dX5_takes_1 rfl (by decide) (lv' := [(1, .int (0 : Int32)), (0, .ref (gh G 17))]) rfl ?_
  rw [hP2] at hw
  exact g_perm [1, 0] rfl (hw)

set_option maxHeartbeats 4000000 in
set_option maxRecDepth 100000 in
theorem c_X5_attributeOf (l : Launch) (G : Gp) (hO : gOK G) (hwin : ∀ k, 17 ≤ k → k < 25 → k ∈ gks G) {x0 : Int32}  {st : St} {Q : Int32 → St → Prop} (hw : wp_X5_attributeOf x0 st Q) : MI l G yX5_attributeOf cX5_attributeOf 1 (some .int) { frames := 0, cells := 0, slots := 0, locals := 0 } [.int x0] st Q := by
  refine MI.of (own := RX5) (lo := 17) (hi := 25) hO hwin (by decide) rfl (Nat.le_of_ble_eq_true rfl) (fun p e s m args below meth c C hr hlk => ?_)
  refine g_lv (lv' := [(0, .int x0)]) rfl ?_
  unfold wp_X5_attributeOf at hw
  refine g_iload_n C 0 dX5_attributeOf_0 rfl rfl ?_
  refine g_bipush C (115 : Int32) dX5_attributeOf_1 (by decide) ?_
  refine g_icmp_ne C 10 dX5_attributeOf_3 (by decide) (fun c_4 => ?_) (fun c_4 => ?_)
  · replace hw := hw.2 c_4
    refine g_iload_n C 0 dX5_attributeOf_10 rfl rfl ?_
    refine g_bipush C (97 : Int32) dX5_attributeOf_11 (by decide) ?_
    refine g_icmp_ne C 20 dX5_attributeOf_13 (by decide) (fun c_3 => ?_) (fun c_3 => ?_)
    · replace hw := hw.2 c_3
      refine g_iload_n C 0 dX5_attributeOf_20 rfl rfl ?_
      refine g_bipush C (114 : Int32) dX5_attributeOf_21 (by decide) ?_
      refine g_icmp_ne C 30 dX5_attributeOf_23 (by decide) (fun c_2 => ?_) (fun c_2 => ?_)
      · replace hw := hw.2 c_2
        refine g_iload_n C 0 dX5_attributeOf_30 rfl rfl ?_
        refine g_bipush C (108 : Int32) dX5_attributeOf_31 (by decide) ?_
        refine g_icmp_ne C 40 dX5_attributeOf_33 (by decide) (fun c_1 => ?_) (fun c_1 => ?_)
        · replace hw := hw.2 c_1
          refine g_bipush C (-4 : Int32) dX5_attributeOf_40 (by decide) ?_
          exact g_iret C hr hlk hw dX5_attributeOf_42
        · replace hw := hw.1 c_1
          refine g_iconst C (3 : Int32) dX5_attributeOf_36 (by decide) ?_
          refine g_goto C 42 dX5_attributeOf_37 (by decide) ?_
          exact g_iret C hr hlk hw dX5_attributeOf_42
      · replace hw := hw.1 c_2
        refine g_iconst C (2 : Int32) dX5_attributeOf_26 (by decide) ?_
        refine g_goto C 42 dX5_attributeOf_27 (by decide) ?_
        exact g_iret C hr hlk hw dX5_attributeOf_42
    · replace hw := hw.1 c_3
      refine g_iconst C (1 : Int32) dX5_attributeOf_16 (by decide) ?_
      refine g_goto C 42 dX5_attributeOf_17 (by decide) ?_
      exact g_iret C hr hlk hw dX5_attributeOf_42
  · replace hw := hw.1 c_4
    refine g_iconst C (0 : Int32) dX5_attributeOf_6 (by decide) ?_
    refine g_goto C 42 dX5_attributeOf_7 (by decide) ?_
    exact g_iret C hr hlk hw dX5_attributeOf_42

set_option maxHeartbeats 4000000 in
set_option maxRecDepth 100000 in
theorem c_X5_constraints (l : Launch) (G : Gp) (hO : gOK G) (hwin : ∀ k, 17 ≤ k → k < 25 → k ∈ gks G) {x1 : Int32}  {st : St} {Q : Int32 → St → Prop} (hw : wp_X5_constraints x1 st Q) : MI l G yX5_constraints cX5_constraints 5 (some .boolean) { frames := 1, cells := 0, slots := 0, locals := 22 } [.ref (gh G 17), .int x1] st Q := by
  refine MI.of (own := RX5) (lo := 17) (hi := 25) hO hwin (by decide) rfl (Nat.le_of_ble_eq_true rfl) (fun p e s m args below meth c C hr hlk => ?_)
  refine g_lv (lv' := [(0, .ref (gh G 17)), (1, .int x1)]) rfl ?_
  unfold wp_X5_constraints at hw
  obtain ⟨P2, hP2⟩ : ∃ P : Int32 → St → Prop, P = fun x2 st => WG p l e ({ frames := 1, cells := 0, slots := 0, locals := 22 } : Room) s m args below meth c 0 0 (MQ below (va_Qi Q (gB G) (gA G)) args s 0 0 (gA G)) G 5 2 [(0, .ref (gh G 17)), (1, .int x1), (2, .int x2)] [] st := ⟨_, rfl⟩
  obtain ⟨P64, hP64⟩ : ∃ P : Int32 → Int32 → Int32 → St → Prop, P = fun x2 x3 x4 st => WG p l e ({ frames := 1, cells := 0, slots := 0, locals := 22 } : Room) s m args below meth c 0 0 (MQ below (va_Qi Q (gB G) (gA G)) args s 0 0 (gA G)) G 5 64 [(0, .ref (gh G 17)), (1, .int x1), (2, .int x2), (3, .int x3), (4, .int x4)] [] st := ⟨_, rfl⟩
  obtain ⟨P127, hP127⟩ : ∃ P : Int32 → Int32 → Int32 → St → Prop, P = fun x2 x3 x4 st => WG p l e ({ frames := 1, cells := 0, slots := 0, locals := 22 } : Room) s m args below meth c 0 0 (MQ below (va_Qi Q (gB G) (gA G)) args s 0 0 (gA G)) G 5 127 [(0, .ref (gh G 17)), (1, .int x1), (2, .int x2), (3, .int x3), (4, .int x4)] [] st := ⟨_, rfl⟩
  replace hw := hw P2 P64 P127
  replace hw := hw (by
    intro x2 st hw
    rw [hP2]
    refine g_aload_n C 0 dX5_constraints_2 rfl rfl ?_
    refine g_callVi C (c_X5_next l G hO hwin hw) kX5_next tw_695 (Rv.of C (C.win (by decide) (by decide)) rfl (ci := 5) rfl) rfl rfl ⟨Nat.le_of_ble_eq_true rfl, Nat.le_of_ble_eq_true rfl⟩ (As := []) (rest := []) rfl rfl (Nat.le_of_ble_eq_true rfl) dX5_constraints_3 ⟨Nat.le_of_ble_eq_true rfl, Nat.le_of_ble_eq_true rfl⟩ (fun r_2 s_1 hw => ?_)
    refine g_bipush C (58 : Int32) dX5_constraints_6 (by decide) ?_
    refine g_icmp_ne C 149 dX5_constraints_8 (by decide) (fun c_12 => ?_) (fun c_12 => ?_)
    · replace hw := hw.2 c_12
      refine g_iconst C (1 : Int32) dX5_constraints_149 (by decide) ?_
      exact g_zret C hr hlk rfl hw dX5_constraints_150
    · replace hw := hw.1 c_12
      refine g_aload_n C 0 dX5_constraints_11 rfl rfl ?_
      refine g_dup C dX5_constraints_12 rfl ?_
      refine g_get C inX5 (C.win (by decide) (by decide)) rfl rfl 8 (by decide) tw_631 rfl dX5_constraints_13 ?_
      refine g_iconst C (1 : Int32) dX5_constraints_16 (by decide) ?_
      refine g_iadd C dX5_constraints_17 ?_
      refine g_put (ty := .int) ((s_1 17 8) + (1 : Int32)) C inX5 tyX5_ok nmX5 (C.win (by decide) (by decide)) rfl rfl 8 (by decide) tw_631 rfl (by decide +kernel) rfl rfl (Nat.le_of_ble_eq_true rfl) rfl dX5_constraints_18 ?_
      refine g_aload_n C 0 dX5_constraints_21 rfl rfl ?_
      refine g_callVi C (c_X5_next l G hO hwin hw) kX5_next tw_695 (Rv.of C (C.win (by decide) (by decide)) rfl (ci := 5) rfl) rfl rfl ⟨Nat.le_of_ble_eq_true rfl, Nat.le_of_ble_eq_true rfl⟩ (As := []) (rest := []) rfl rfl (Nat.le_of_ble_eq_true rfl) dX5_constraints_22 ⟨Nat.le_of_ble_eq_true rfl, Nat.le_of_ble_eq_true rfl⟩ (fun r_4 s_3 hw => ?_)
      refine g_callSi C (c_X5_attributeOf l G hO hwin hw) kX5_attributeOf tw_699 rfl rfl ⟨Nat.le_of_ble_eq_true rfl, Nat.le_of_ble_eq_true rfl⟩ (As := [.int r_4]) (rest := []) rfl rfl (Nat.le_of_ble_eq_true rfl) dX5_constraints_25 ⟨Nat.le_of_ble_eq_true rfl, Nat.le_of_ble_eq_true rfl⟩ (fun r_6 s_5 hw => ?_)
      refine g_istore_n C dX5_constraints_28 rfl (by decide) (lv' := [(3, .int r_6), (0, .ref (gh G 17)), (1, .int x1), (2, .int x2)]) rfl ?_
      refine g_aload_n C 1 dX5_constraints_29 rfl rfl ?_
      refine g_dup C dX5_constraints_30 rfl ?_
      refine g_get C inX5 (C.win (by decide) (by decide)) rfl rfl 8 (by decide) tw_631 rfl dX5_constraints_31 ?_
      refine g_iconst C (1 : Int32) dX5_constraints_34 (by decide) ?_
      refine g_iadd C dX5_constraints_35 ?_
      refine g_put (ty := .int) ((s_5 17 8) + (1 : Int32)) C inX5 tyX5_ok nmX5 (C.win (by decide) (by decide)) rfl rfl 8 (by decide) tw_631 rfl (by decide +kernel) rfl rfl (Nat.le_of_ble_eq_true rfl) rfl dX5_constraints_36 ?_
      refine g_iload_n C 0 dX5_constraints_39 rfl rfl ?_
      refine g_bipush C (-4 : Int32) dX5_constraints_40 (by decide) ?_
      refine g_icmp_eq C 53 dX5_constraints_42 (by decide) (fun c_11 => ?_) (fun c_11 => ?_)
      · replace hw := hw.1 c_11
        refine g_iconst C (0 : Int32) dX5_constraints_53 (by decide) ?_
        exact g_zret C hr hlk rfl hw dX5_constraints_54
      · replace hw := hw.2 c_11
        refine g_iload_n C 3 dX5_constraints_45 rfl rfl ?_
        refine g_iload_n C 0 dX5_constraints_46 rfl rfl ?_
        refine g_callSi C (c_X5_has l G hO hwin hw) kX5_has tw_702 rfl rfl ⟨Nat.le_of_ble_eq_true rfl, Nat.le_of_ble_eq_true rfl⟩ (As := [.int x2, .int r_6]) (rest := []) rfl rfl (Nat.le_of_ble_eq_true rfl) dX5_constraints_47 ⟨Nat.le_of_ble_eq_true rfl, Nat.le_of_ble_eq_true rfl⟩ (fun r_8 s_7 hw => ?_)
        refine g_if_eq C 55 dX5_constraints_50 (by decide) (fun c_10 => ?_) (fun c_10 => ?_)
        · replace hw := hw.1 c_10
          refine g_iload_n C 3 dX5_constraints_55 rfl rfl ?_
          refine g_iconst C (1 : Int32) dX5_constraints_56 (by decide) ?_
          refine g_iload_n C 0 dX5_constraints_57 rfl rfl ?_
          refine g_ishl C dX5_constraints_58 ?_
          refine g_ior C dX5_constraints_59 ?_
          refine g_topi (fun x2_9 ex2_9 => ?_)
          replace hw := hw x2_9 ex2_9
          refine g_istore_n C dX5_constraints_60 rfl (by decide) (lv' := [(2, .int x2_9), (3, .int r_6), (0, .ref (gh G 17)), (1, .int x1)]) rfl ?_
          refine g_iconst C (0 : Int32) dX5_constraints_61 (by decide) ?_
          refine g_istore C dX5_constraints_62 (by decide) (lv' := [(4, .int (0 : Int32)), (2, .int x2_9), (3, .int r_6), (0, .ref (gh G 17)), (1, .int x1)]) rfl ?_
          rw [hP64] at hw
          exact g_perm [3, 4, 1, 2, 0] rfl (hw)
        · replace hw := hw.2 c_10
          refine g_iconst C (0 : Int32) dX5_constraints_53 (by decide) ?_
          exact g_zret C hr hlk rfl hw dX5_constraints_54)
  replace hw := hw (by
    intro x2 x3 x4 st hw
    rw [hP64]
    refine g_aload_n C 0 dX5_constraints_64 rfl rfl ?_
    refine g_callVi C (c_X5_next l G hO hwin hw) kX5_next tw_695 (Rv.of C (C.win (by decide) (by decide)) rfl (ci := 5) rfl) rfl rfl ⟨Nat.le_of_ble_eq_true rfl, Nat.le_of_ble_eq_true rfl⟩ (As := []) (rest := []) rfl rfl (Nat.le_of_ble_eq_true rfl) dX5_constraints_65 ⟨Nat.le_of_ble_eq_true rfl, Nat.le_of_ble_eq_true rfl⟩ (fun r_14 s_13 hw => ?_)
    refine g_bipush C (48 : Int32) dX5_constraints_68 (by decide) ?_
    refine g_bipush C (48 : Int32) dX5_constraints_70 (by decide) ?_
    refine g_iload_n C 3 dX5_constraints_72 rfl rfl ?_
    refine g_callSi C (c_X5_valuesOf l G hO hwin hw) kX5_valuesOf tw_688 rfl rfl ⟨Nat.le_of_ble_eq_true rfl, Nat.le_of_ble_eq_true rfl⟩ (As := [.int x3]) (rest := [.int (48 : Int32), .int (48 : Int32), .int r_14]) rfl rfl (Nat.le_of_ble_eq_true rfl) dX5_constraints_73 ⟨Nat.le_of_ble_eq_true rfl, Nat.le_of_ble_eq_true rfl⟩ (fun r_16 s_15 hw => ?_)
    refine g_iadd C dX5_constraints_76 ?_
    refine g_iconst C (1 : Int32) dX5_constraints_77 (by decide) ?_
    refine g_isub C dX5_constraints_78 ?_
    refine g_callSi C (c_X5_in l G hO hwin hw) kX5_in tw_661 rfl rfl ⟨Nat.le_of_ble_eq_true rfl, Nat.le_of_ble_eq_true rfl⟩ (As := [.int r_14, .int (48 : Int32), .int (((48 : Int32) + r_16) - (1 : Int32))]) (rest := []) rfl rfl (Nat.le_of_ble_eq_true rfl) dX5_constraints_79 ⟨Nat.le_of_ble_eq_true rfl, Nat.le_of_ble_eq_true rfl⟩ (fun r_18 s_17 hw => ?_)
    refine g_if_eq C 127 dX5_constraints_82 (by decide) (fun c_27 => ?_) (fun c_27 => ?_)
    · replace hw := hw.1 c_27
      rw [hP127] at hw
      exact g_perm [0, 1, 2, 3, 4] rfl (hw)
    · replace hw := hw.2 c_27
      refine g_iload C 4 dX5_constraints_85 rfl ?_
      refine g_aload_n C 0 dX5_constraints_87 rfl rfl ?_
      refine g_callVi C (c_X5_next l G hO hwin hw) kX5_next tw_695 (Rv.of C (C.win (by decide) (by decide)) rfl (ci := 5) rfl) rfl rfl ⟨Nat.le_of_ble_eq_true rfl, Nat.le_of_ble_eq_true rfl⟩ (As := []) (rest := [.int x4]) rfl rfl (Nat.le_of_ble_eq_true rfl) dX5_constraints_88 ⟨Nat.le_of_ble_eq_true rfl, Nat.le_of_ble_eq_true rfl⟩ (fun r_20 s_19 hw => ?_)
      refine g_bipush C (48 : Int32) dX5_constraints_91 (by decide) ?_
      refine g_isub C dX5_constraints_93 ?_
      refine g_callSi C (c_X5_has l G hO hwin hw) kX5_has tw_702 rfl rfl ⟨Nat.le_of_ble_eq_true rfl, Nat.le_of_ble_eq_true rfl⟩ (As := [.int x4, .int (r_20 - (48 : Int32))]) (rest := []) rfl rfl (Nat.le_of_ble_eq_true rfl) dX5_constraints_94 ⟨Nat.le_of_ble_eq_true rfl, Nat.le_of_ble_eq_true rfl⟩ (fun r_22 s_21 hw => ?_)
      refine g_if_ne C 127 dX5_constraints_97 (by decide) (fun c_26 => ?_) (fun c_26 => ?_)
      · replace hw := hw.2 c_26
        rw [hP127] at hw
        exact g_perm [0, 1, 2, 3, 4] rfl (hw)
      · replace hw := hw.1 c_26
        refine g_iload C 4 dX5_constraints_100 rfl ?_
        refine g_iconst C (1 : Int32) dX5_constraints_102 (by decide) ?_
        refine g_aload_n C 0 dX5_constraints_103 rfl rfl ?_
        refine g_callVi C (c_X5_next l G hO hwin hw) kX5_next tw_695 (Rv.of C (C.win (by decide) (by decide)) rfl (ci := 5) rfl) rfl rfl ⟨Nat.le_of_ble_eq_true rfl, Nat.le_of_ble_eq_true rfl⟩ (As := []) (rest := [.int (1 : Int32), .int x4]) rfl rfl (Nat.le_of_ble_eq_true rfl) dX5_constraints_104 ⟨Nat.le_of_ble_eq_true rfl, Nat.le_of_ble_eq_true rfl⟩ (fun r_24 s_23 hw => ?_)
        refine g_bipush C (48 : Int32) dX5_constraints_107 (by decide) ?_
        refine g_isub C dX5_constraints_109 ?_
        refine g_ishl C dX5_constraints_110 ?_
        refine g_ior C dX5_constraints_111 ?_
        refine g_topi (fun x4_25 ex4_25 => ?_)
        replace hw := hw x4_25 ex4_25
        refine g_istore C dX5_constraints_112 (by decide) (lv' := [(4, .int x4_25), (0, .ref (gh G 17)), (1, .int x1), (2, .int x2), (3, .int x3)]) rfl ?_
        refine g_aload_n C 1 dX5_constraints_114 rfl rfl ?_
        refine g_dup C dX5_constraints_115 rfl ?_
        refine g_get C inX5 (C.win (by decide) (by decide)) rfl rfl 8 (by decide) tw_631 rfl dX5_constraints_116 ?_
        refine g_iconst C (1 : Int32) dX5_constraints_119 (by decide) ?_
        refine g_iadd C dX5_constraints_120 ?_
        refine g_put (ty := .int) ((s_23 17 8) + (1 : Int32)) C inX5 tyX5_ok nmX5 (C.win (by decide) (by decide)) rfl rfl 8 (by decide) tw_631 rfl (by decide +kernel) rfl rfl (Nat.le_of_ble_eq_true rfl) rfl dX5_constraints_121 ?_
        refine g_goto C 64 dX5_constraints_124 (by decide) ?_
        rw [hP64] at hw
        exact g_perm [1, 2, 3, 4, 0] rfl (hw))
  replace hw := hw (by
    intro x2 x3 x4 st hw
    rw [hP127]
    refine g_iload C 4 dX5_constraints_127 rfl ?_
    refine g_if_ne C 134 dX5_constraints_129 (by decide) (fun c_28 => ?_) (fun c_28 => ?_)
    · replace hw := hw.2 c_28
      refine g_aload_n C 0 dX5_constraints_134 rfl rfl ?_
      refine g_get C inX5 (C.win (by decide) (by decide)) rfl rfl 3 (by decide) tw_626 rfl dX5_constraints_135 ?_
      refine g_iload_n C 1 dX5_constraints_138 rfl rfl ?_
      refine g_iconst C (1 : Int32) dX5_constraints_139 (by decide) ?_
      refine g_iadd C dX5_constraints_140 ?_
      refine g_iload_n C 3 dX5_constraints_141 rfl rfl ?_
      refine g_iadd C dX5_constraints_142 ?_
      refine g_iload C 4 dX5_constraints_143 rfl ?_
      refine g_iast C (C.win (by decide) (by decide)) (fun _ => rfl) hw.1 dX5_constraints_145 ?_
      replace hw := hw.2
      refine g_goto C 2 dX5_constraints_146 (by decide) ?_
      rw [hP2] at hw
      exact g_perm [0, 1, 2] rfl (hw)
    · replace hw := hw.1 c_28
      refine g_iconst C (0 : Int32) dX5_constraints_132 (by decide) ?_
      exact g_zret C hr hlk rfl hw dX5_constraints_133)
  refine g_iconst C (0 : Int32) dX5_constraints_0 (by decide) ?_
  refine g_istore_n C dX5_constraints_1 rfl (by decide) (lv' := [(2, .int (0 : Int32)), (0, .ref (gh G 17)), (1, .int x1)]) rfl ?_
  rw [hP2] at hw
  exact g_perm [1, 2, 0] rfl (hw)

set_option maxHeartbeats 4000000 in
set_option maxRecDepth 100000 in
theorem c_X5_rule (l : Launch) (G : Gp) (hO : gOK G) (hwin : ∀ k, 17 ≤ k → k < 25 → k ∈ gks G) {x1 : Int32} {x2 : Int32}  {st : St} {Q : Int32 → St → Prop} (hw : wp_X5_rule x1 x2 st Q) : MI l G yX5_rule cX5_rule 6 (some .boolean) { frames := 2, cells := 0, slots := 0, locals := 46 } [.ref (gh G 17), .int x1, .int x2] st Q := by
  refine MI.of (own := RX5) (lo := 17) (hi := 25) hO hwin (by decide) rfl (Nat.le_of_ble_eq_true rfl) (fun p e s m args below meth c C hr hlk => ?_)
  refine g_lv (lv' := [(0, .ref (gh G 17)), (1, .int x1), (2, .int x2)]) rfl ?_
  unfold wp_X5_rule at hw
  obtain ⟨P41, hP41⟩ : ∃ P : Int32 → Int32 → St → Prop, P = fun x4 x5 st => WG p l e ({ frames := 2, cells := 0, slots := 0, locals := 46 } : Room) s m args below meth c 0 0 (MQ below (va_Qi Q (gB G) (gA G)) args s 0 0 (gA G)) G 6 41 [(0, .ref (gh G 17)), (1, .int x1), (2, .int x2), (4, .int x4), (5, .int x5)] [] st := ⟨_, rfl⟩
  replace hw := hw P41
  replace hw := hw (by
    intro x4 x5 st hw
    rw [hP41]
    refine g_iload C 4 dX5_rule_41 rfl ?_
    refine g_iconst C (4 : Int32) dX5_rule_43 (by decide) ?_
    refine g_icmp_ge C 74 dX5_rule_44 (by decide) (fun c_6 => ?_) (fun c_6 => ?_)
    · replace hw := hw.1 c_6
      refine g_aload_n C 0 dX5_rule_74 rfl rfl ?_
      refine g_get C inX5 (C.win (by decide) (by decide)) rfl rfl 3 (by decide) tw_626 rfl dX5_rule_75 ?_
      refine g_bipush C (42 : Int32) dX5_rule_78 (by decide) ?_
      refine g_iload_n C 1 dX5_rule_80 rfl rfl ?_
      refine g_imul C dX5_rule_81 ?_
      refine g_dup2 C dX5_rule_82 rfl rfl ?_
      refine g_iald C (C.win (by decide) (by decide)) rfl hw.1 dX5_rule_83 ?_
      replace hw := hw.2
      refine g_iconst C (1 : Int32) dX5_rule_84 (by decide) ?_
      refine g_iadd C dX5_rule_85 ?_
      refine g_iast C (C.win (by decide) (by decide)) (fun _ => rfl) hw.1 dX5_rule_86 ?_
      replace hw := hw.2
      refine g_aload_n C 0 dX5_rule_87 rfl rfl ?_
      refine g_iload C 3 dX5_rule_88 rfl ?_
      refine g_callVi C (c_X5_constraints l G hO hwin hw) kX5_constraints tw_691 (Rv.of C (C.win (by decide) (by decide)) rfl (ci := 5) rfl) rfl rfl ⟨Nat.le_of_ble_eq_true rfl, Nat.le_of_ble_eq_true rfl⟩ (As := [.int x4]) (rest := []) rfl rfl (Nat.le_of_ble_eq_true rfl) dX5_rule_90 ⟨Nat.le_of_ble_eq_true rfl, Nat.le_of_ble_eq_true rfl⟩ (fun r_2 s_1 hw => ?_)
      exact g_zret C hr hlk (nar_bool hw.1) hw.2 dX5_rule_93
    · replace hw := hw.2 c_6
      refine g_aload_n C 0 dX5_rule_47 rfl rfl ?_
      refine g_get C inX5 (C.win (by decide) (by decide)) rfl rfl 3 (by decide) tw_626 rfl dX5_rule_48 ?_
      refine g_iload C 3 dX5_rule_51 rfl ?_
      refine g_iconst C (1 : Int32) dX5_rule_53 (by decide) ?_
      refine g_iadd C dX5_rule_54 ?_
      refine g_iload C 4 dX5_rule_55 rfl ?_
      refine g_iadd C dX5_rule_57 ?_
      refine g_iconst C (1 : Int32) dX5_rule_58 (by decide) ?_
      refine g_iload C 4 dX5_rule_59 rfl ?_
      refine g_callSi C (c_X5_valuesOf l G hO hwin hw) kX5_valuesOf tw_688 rfl rfl ⟨Nat.le_of_ble_eq_true rfl, Nat.le_of_ble_eq_true rfl⟩ (As := [.int x5]) (rest := [.int (1 : Int32), .int ((x4 + (1 : Int32)) + x5), .ref (gh G 20)]) rfl rfl (Nat.le_of_ble_eq_true rfl) dX5_rule_61 ⟨Nat.le_of_ble_eq_true rfl, Nat.le_of_ble_eq_true rfl⟩ (fun r_4 s_3 hw => ?_)
      refine g_ishl C dX5_rule_64 ?_
      refine g_iconst C (1 : Int32) dX5_rule_65 (by decide) ?_
      refine g_isub C dX5_rule_66 ?_
      refine g_iast C (C.win (by decide) (by decide)) (fun _ => rfl) hw.1 dX5_rule_67 ?_
      replace hw := hw.2
      obtain ⟨x5_5, ex5_5⟩ : ∃ z : Int32, z = x5 + (1 : Int32) := ⟨_, rfl⟩
      replace hw := hw x5_5 ex5_5
      refine g_iinc C x5_5 4 dX5_rule_68 rfl ex5_5.symm (by decide) (lv' := [(5, .int x5_5), (0, .ref (gh G 17)), (1, .int x1), (2, .int x2), (4, .int x4)]) rfl ?_
      refine g_goto C 41 dX5_rule_71 (by decide) ?_
      rw [hP41] at hw
      exact g_perm [1, 2, 3, 4, 0] rfl (hw))
  refine g_aload_n C 0 dX5_rule_0 rfl rfl ?_
  refine g_get C inX5 (C.win (by decide) (by decide)) rfl rfl 3 (by decide) tw_626 rfl dX5_rule_1 ?_
  refine g_bipush C (42 : Int32) dX5_rule_4 (by decide) ?_
  refine g_iload_n C 1 dX5_rule_6 rfl rfl ?_
  refine g_imul C dX5_rule_7 ?_
  refine g_iald C (C.win (by decide) (by decide)) rfl hw.1 dX5_rule_8 ?_
  replace hw := hw.2
  refine g_topi (fun x3_7 ex3_7 => ?_)
  replace hw := hw x3_7 ex3_7
  refine g_istore_n C dX5_rule_9 rfl (by decide) (lv' := [(3, .int x3_7), (0, .ref (gh G 17)), (1, .int x1), (2, .int x2)]) rfl ?_
  refine g_iload_n C 0 dX5_rule_10 rfl rfl ?_
  refine g_bipush C (8 : Int32) dX5_rule_11 (by decide) ?_
  refine g_icmp_ne C 18 dX5_rule_13 (by decide) (fun c_9 => ?_) (fun c_9 => ?_)
  · replace hw := hw.2 c_9
    refine g_bipush C (42 : Int32) dX5_rule_18 (by decide) ?_
    refine g_iload_n C 2 dX5_rule_20 rfl rfl ?_
    refine g_imul C dX5_rule_21 ?_
    refine g_iconst C (2 : Int32) dX5_rule_22 (by decide) ?_
    refine g_iadd C dX5_rule_23 ?_
    refine g_iconst C (5 : Int32) dX5_rule_24 (by decide) ?_
    refine g_iload_n C 0 dX5_rule_25 rfl rfl ?_
    refine g_imul C dX5_rule_26 ?_
    refine g_iadd C dX5_rule_27 ?_
    refine g_topi (fun x4_8 ex4_8 => ?_)
    replace hw := hw x4_8 ex4_8
    refine g_istore C dX5_rule_28 (by decide) (lv' := [(4, .int x4_8), (3, .int x3_7), (0, .ref (gh G 17)), (1, .int x1), (2, .int x2)]) rfl ?_
    refine g_aload_n C 2 dX5_rule_30 rfl rfl ?_
    refine g_get C inX5 (C.win (by decide) (by decide)) rfl rfl 3 (by decide) tw_626 rfl dX5_rule_31 ?_
    refine g_iload C 0 dX5_rule_34 rfl ?_
    refine g_iload_n C 4 dX5_rule_36 rfl rfl ?_
    refine g_iast C (C.win (by decide) (by decide)) (fun _ => rfl) hw.1 dX5_rule_37 ?_
    replace hw := hw.2
    refine g_iconst C (0 : Int32) dX5_rule_38 (by decide) ?_
    refine g_istore C dX5_rule_39 (by decide) (lv' := [(5, .int (0 : Int32)), (4, .int x4_8), (3, .int x3_7), (0, .ref (gh G 17)), (1, .int x1), (2, .int x2)]) rfl ?_
    rw [hP41] at hw
    exact g_perm [3, 4, 5, 1, 0] rfl (hw)
  · replace hw := hw.1 c_9
    refine g_iconst C (0 : Int32) dX5_rule_16 (by decide) ?_
    exact g_zret C hr hlk rfl hw dX5_rule_17

set_option maxHeartbeats 4000000 in
set_option maxRecDepth 100000 in
theorem c_X5_algorithm (l : Launch) (G : Gp) (hO : gOK G) (hwin : ∀ k, 17 ≤ k → k < 25 → k ∈ gks G)   {st : St} {Q : Int32 → St → Prop} (hw : wp_X5_algorithm  st Q) : MI l G yX5_algorithm cX5_algorithm 1 (some .int) { frames := 2, cells := 0, slots := 0, locals := 50 } [.ref (gh G 17)] st Q := by
  refine MI.of (own := RX5) (lo := 17) (hi := 25) hO hwin (by decide) rfl (Nat.le_of_ble_eq_true rfl) (fun p e s m args below meth c C hr hlk => ?_)
  refine g_lv (lv' := [(0, .ref (gh G 17))]) rfl ?_
  unfold wp_X5_algorithm at hw
  obtain ⟨P67, hP67⟩ : ∃ P : St → Prop, P = fun st => WG p l e ({ frames := 2, cells := 0, slots := 0, locals := 50 } : Room) s m args below meth c 0 0 (MQ below (va_Qi Q (gB G) (gA G)) args s 0 0 (gA G)) G 1 67 [(0, .ref (gh G 17))] [] st := ⟨_, rfl⟩
  obtain ⟨P117, hP117⟩ : ∃ P : St → Prop, P = fun st => WG p l e ({ frames := 2, cells := 0, slots := 0, locals := 50 } : Room) s m args below meth c 0 0 (MQ below (va_Qi Q (gB G) (gA G)) args s 0 0 (gA G)) G 1 117 [(0, .ref (gh G 17))] [] st := ⟨_, rfl⟩
  obtain ⟨P161, hP161⟩ : ∃ P : St → Prop, P = fun st => WG p l e ({ frames := 2, cells := 0, slots := 0, locals := 50 } : Room) s m args below meth c 0 0 (MQ below (va_Qi Q (gB G) (gA G)) args s 0 0 (gA G)) G 1 161 [(0, .ref (gh G 17))] [] st := ⟨_, rfl⟩
  replace hw := hw P67 P117 P161
  replace hw := hw (by
    intro st hw
    rw [hP67]
    refine g_aload_n C 0 dX5_algorithm_67 rfl rfl ?_
    refine g_bipush C (6 : Int32) dX5_algorithm_68 (by decide) ?_
    refine g_bipush C (111 : Int32) dX5_algorithm_70 (by decide) ?_
    refine g_bipush C (118 : Int32) dX5_algorithm_72 (by decide) ?_
    refine g_bipush C (101 : Int32) dX5_algorithm_74 (by decide) ?_
    refine g_bipush C (114 : Int32) dX5_algorithm_76 (by decide) ?_
    refine g_callVi C (c_X5_are l G hO hwin hw) kX5_are tw_709 (Rv.of C (C.win (by decide) (by decide)) rfl (ci := 5) rfl) rfl rfl ⟨Nat.le_of_ble_eq_true rfl, Nat.le_of_ble_eq_true rfl⟩ (As := [.int (6 : Int32), .int (111 : Int32), .int (118 : Int32), .int (101 : Int32), .int (114 : Int32)]) (rest := []) rfl rfl (Nat.le_of_ble_eq_true rfl) dX5_algorithm_78 ⟨Nat.le_of_ble_eq_true rfl, Nat.le_of_ble_eq_true rfl⟩ (fun r_2 s_1 hw => ?_)
    refine g_if_eq C 117 dX5_algorithm_81 (by decide) (fun c_6 => ?_) (fun c_6 => ?_)
    · replace hw := hw.1 c_6
      rw [hP117] at hw
      exact g_perm [0] rfl (hw)
    · replace hw := hw.2 c_6
      refine g_aload_n C 0 dX5_algorithm_84 rfl rfl ?_
      refine g_bipush C (112 : Int32) dX5_algorithm_85 (by decide) ?_
      refine g_bipush C (101 : Int32) dX5_algorithm_87 (by decide) ?_
      refine g_bipush C (114 : Int32) dX5_algorithm_89 (by decide) ?_
      refine g_bipush C (109 : Int32) dX5_algorithm_91 (by decide) ?_
      refine g_bipush C (105 : Int32) dX5_algorithm_93 (by decide) ?_
      refine g_bipush C (116 : Int32) dX5_algorithm_95 (by decide) ?_
      refine g_bipush C (6 : Int32) dX5_algorithm_97 (by decide) ?_
      refine g_callVi C (c_X5_word l G hO hwin hw) kX5_word tw_676 (Rv.of C (C.win (by decide) (by decide)) rfl (ci := 5) rfl) rfl rfl ⟨Nat.le_of_ble_eq_true rfl, Nat.le_of_ble_eq_true rfl⟩ (As := [.int (112 : Int32), .int (101 : Int32), .int (114 : Int32), .int (109 : Int32), .int (105 : Int32), .int (116 : Int32), .int (6 : Int32)]) (rest := []) rfl rfl (Nat.le_of_ble_eq_true rfl) dX5_algorithm_99 ⟨Nat.le_of_ble_eq_true rfl, Nat.le_of_ble_eq_true rfl⟩ (fun r_4 s_3 hw => ?_)
      refine g_if_eq C 117 dX5_algorithm_102 (by decide) (fun c_5 => ?_) (fun c_5 => ?_)
      · replace hw := hw.1 c_5
        rw [hP117] at hw
        exact g_perm [0] rfl (hw)
      · replace hw := hw.2 c_5
        refine g_aload_n C 0 dX5_algorithm_105 rfl rfl ?_
        refine g_dup C dX5_algorithm_106 rfl ?_
        refine g_get C inX5 (C.win (by decide) (by decide)) rfl rfl 8 (by decide) tw_631 rfl dX5_algorithm_107 ?_
        refine g_iconst C (4 : Int32) dX5_algorithm_110 (by decide) ?_
        refine g_iadd C dX5_algorithm_111 ?_
        refine g_put (ty := .int) ((s_3 17 8) + (4 : Int32)) C inX5 tyX5_ok nmX5 (C.win (by decide) (by decide)) rfl rfl 8 (by decide) tw_631 rfl (by decide +kernel) rfl rfl (Nat.le_of_ble_eq_true rfl) rfl dX5_algorithm_112 ?_
        refine g_iconst C (2 : Int32) dX5_algorithm_115 (by decide) ?_
        exact g_iret C hr hlk hw dX5_algorithm_116)
  replace hw := hw (by
    intro st hw
    rw [hP117]
    refine g_aload_n C 0 dX5_algorithm_117 rfl rfl ?_
    refine g_bipush C (6 : Int32) dX5_algorithm_118 (by decide) ?_
    refine g_bipush C (101 : Int32) dX5_algorithm_120 (by decide) ?_
    refine g_callVi C (c_X5_is l G hO hwin hw) kX5_is tw_680 (Rv.of C (C.win (by decide) (by decide)) rfl (ci := 5) rfl) rfl rfl ⟨Nat.le_of_ble_eq_true rfl, Nat.le_of_ble_eq_true rfl⟩ (As := [.int (6 : Int32), .int (101 : Int32)]) (rest := []) rfl rfl (Nat.le_of_ble_eq_true rfl) dX5_algorithm_122 ⟨Nat.le_of_ble_eq_true rfl, Nat.le_of_ble_eq_true rfl⟩ (fun r_8 s_7 hw => ?_)
    refine g_if_eq C 161 dX5_algorithm_125 (by decide) (fun c_12 => ?_) (fun c_12 => ?_)
    · replace hw := hw.1 c_12
      rw [hP161] at hw
      exact g_perm [0] rfl (hw)
    · replace hw := hw.2 c_12
      refine g_aload_n C 0 dX5_algorithm_128 rfl rfl ?_
      refine g_bipush C (111 : Int32) dX5_algorithm_129 (by decide) ?_
      refine g_bipush C (110 : Int32) dX5_algorithm_131 (by decide) ?_
      refine g_bipush C (108 : Int32) dX5_algorithm_133 (by decide) ?_
      refine g_bipush C (121 : Int32) dX5_algorithm_135 (by decide) ?_
      refine g_bipush C (111 : Int32) dX5_algorithm_137 (by decide) ?_
      refine g_bipush C (110 : Int32) dX5_algorithm_139 (by decide) ?_
      refine g_bipush C (6 : Int32) dX5_algorithm_141 (by decide) ?_
      refine g_callVi C (c_X5_word l G hO hwin hw) kX5_word tw_676 (Rv.of C (C.win (by decide) (by decide)) rfl (ci := 5) rfl) rfl rfl ⟨Nat.le_of_ble_eq_true rfl, Nat.le_of_ble_eq_true rfl⟩ (As := [.int (111 : Int32), .int (110 : Int32), .int (108 : Int32), .int (121 : Int32), .int (111 : Int32), .int (110 : Int32), .int (6 : Int32)]) (rest := []) rfl rfl (Nat.le_of_ble_eq_true rfl) dX5_algorithm_143 ⟨Nat.le_of_ble_eq_true rfl, Nat.le_of_ble_eq_true rfl⟩ (fun r_10 s_9 hw => ?_)
      refine g_if_eq C 161 dX5_algorithm_146 (by decide) (fun c_11 => ?_) (fun c_11 => ?_)
      · replace hw := hw.1 c_11
        rw [hP161] at hw
        exact g_perm [0] rfl (hw)
      · replace hw := hw.2 c_11
        refine g_aload_n C 0 dX5_algorithm_149 rfl rfl ?_
        refine g_dup C dX5_algorithm_150 rfl ?_
        refine g_get C inX5 (C.win (by decide) (by decide)) rfl rfl 8 (by decide) tw_631 rfl dX5_algorithm_151 ?_
        refine g_iconst C (1 : Int32) dX5_algorithm_154 (by decide) ?_
        refine g_iadd C dX5_algorithm_155 ?_
        refine g_put (ty := .int) ((s_9 17 8) + (1 : Int32)) C inX5 tyX5_ok nmX5 (C.win (by decide) (by decide)) rfl rfl 8 (by decide) tw_631 rfl (by decide +kernel) rfl rfl (Nat.le_of_ble_eq_true rfl) rfl dX5_algorithm_156 ?_
        refine g_iconst C (3 : Int32) dX5_algorithm_159 (by decide) ?_
        exact g_iret C hr hlk hw dX5_algorithm_160)
  replace hw := hw (by
    intro st hw
    rw [hP161]
    refine g_aload_n C 0 dX5_algorithm_161 rfl rfl ?_
    refine g_bipush C (6 : Int32) dX5_algorithm_162 (by decide) ?_
    refine g_bipush C (116 : Int32) dX5_algorithm_164 (by decide) ?_
    refine g_callVi C (c_X5_is l G hO hwin hw) kX5_is tw_680 (Rv.of C (C.win (by decide) (by decide)) rfl (ci := 5) rfl) rfl rfl ⟨Nat.le_of_ble_eq_true rfl, Nat.le_of_ble_eq_true rfl⟩ (As := [.int (6 : Int32), .int (116 : Int32)]) (rest := []) rfl rfl (Nat.le_of_ble_eq_true rfl) dX5_algorithm_166 ⟨Nat.le_of_ble_eq_true rfl, Nat.le_of_ble_eq_true rfl⟩ (fun r_14 s_13 hw => ?_)
    refine g_if_eq C 216 dX5_algorithm_169 (by decide) (fun c_21 => ?_) (fun c_21 => ?_)
    · replace hw := hw.1 c_21
      refine g_bipush C (-4 : Int32) dX5_algorithm_216 (by decide) ?_
      exact g_iret C hr hlk hw dX5_algorithm_218
    · replace hw := hw.2 c_21
      refine g_aload_n C 0 dX5_algorithm_172 rfl rfl ?_
      refine g_bipush C (7 : Int32) dX5_algorithm_173 (by decide) ?_
      refine g_bipush C (121 : Int32) dX5_algorithm_175 (by decide) ?_
      refine g_callVi C (c_X5_is l G hO hwin hw) kX5_is tw_680 (Rv.of C (C.win (by decide) (by decide)) rfl (ci := 5) rfl) rfl rfl ⟨Nat.le_of_ble_eq_true rfl, Nat.le_of_ble_eq_true rfl⟩ (As := [.int (7 : Int32), .int (121 : Int32)]) (rest := []) rfl rfl (Nat.le_of_ble_eq_true rfl) dX5_algorithm_177 ⟨Nat.le_of_ble_eq_true rfl, Nat.le_of_ble_eq_true rfl⟩ (fun r_16 s_15 hw => ?_)
      refine g_if_eq C 216 dX5_algorithm_180 (by decide) (fun c_20 => ?_) (fun c_20 => ?_)
      · replace hw := hw.1 c_20
        refine g_bipush C (-4 : Int32) dX5_algorithm_216 (by decide) ?_
        exact g_iret C hr hlk hw dX5_algorithm_218
      · replace hw := hw.2 c_20
        refine g_aload_n C 0 dX5_algorithm_183 rfl rfl ?_
        refine g_bipush C (109 : Int32) dX5_algorithm_184 (by decide) ?_
        refine g_bipush C (97 : Int32) dX5_algorithm_186 (by decide) ?_
        refine g_bipush C (106 : Int32) dX5_algorithm_188 (by decide) ?_
        refine g_bipush C (111 : Int32) dX5_algorithm_190 (by decide) ?_
        refine g_bipush C (114 : Int32) dX5_algorithm_192 (by decide) ?_
        refine g_bipush C (105 : Int32) dX5_algorithm_194 (by decide) ?_
        refine g_bipush C (6 : Int32) dX5_algorithm_196 (by decide) ?_
        refine g_callVi C (c_X5_word l G hO hwin hw) kX5_word tw_676 (Rv.of C (C.win (by decide) (by decide)) rfl (ci := 5) rfl) rfl rfl ⟨Nat.le_of_ble_eq_true rfl, Nat.le_of_ble_eq_true rfl⟩ (As := [.int (109 : Int32), .int (97 : Int32), .int (106 : Int32), .int (111 : Int32), .int (114 : Int32), .int (105 : Int32), .int (6 : Int32)]) (rest := []) rfl rfl (Nat.le_of_ble_eq_true rfl) dX5_algorithm_198 ⟨Nat.le_of_ble_eq_true rfl, Nat.le_of_ble_eq_true rfl⟩ (fun r_18 s_17 hw => ?_)
        refine g_if_eq C 216 dX5_algorithm_201 (by decide) (fun c_19 => ?_) (fun c_19 => ?_)
        · replace hw := hw.1 c_19
          refine g_bipush C (-4 : Int32) dX5_algorithm_216 (by decide) ?_
          exact g_iret C hr hlk hw dX5_algorithm_218
        · replace hw := hw.2 c_19
          refine g_aload_n C 0 dX5_algorithm_204 rfl rfl ?_
          refine g_dup C dX5_algorithm_205 rfl ?_
          refine g_get C inX5 (C.win (by decide) (by decide)) rfl rfl 8 (by decide) tw_631 rfl dX5_algorithm_206 ?_
          refine g_iconst C (2 : Int32) dX5_algorithm_209 (by decide) ?_
          refine g_iadd C dX5_algorithm_210 ?_
          refine g_put (ty := .int) ((s_17 17 8) + (2 : Int32)) C inX5 tyX5_ok nmX5 (C.win (by decide) (by decide)) rfl rfl 8 (by decide) tw_631 rfl (by decide +kernel) rfl rfl (Nat.le_of_ble_eq_true rfl) rfl dX5_algorithm_211 ?_
          refine g_iconst C (4 : Int32) dX5_algorithm_214 (by decide) ?_
          exact g_iret C hr hlk hw dX5_algorithm_215)
  refine g_aload_n C 0 dX5_algorithm_0 rfl rfl ?_
  refine g_bipush C (102 : Int32) dX5_algorithm_1 (by decide) ?_
  refine g_bipush C (105 : Int32) dX5_algorithm_3 (by decide) ?_
  refine g_bipush C (114 : Int32) dX5_algorithm_5 (by decide) ?_
  refine g_bipush C (115 : Int32) dX5_algorithm_7 (by decide) ?_
  refine g_bipush C (116 : Int32) dX5_algorithm_9 (by decide) ?_
  refine g_iconst C (0 : Int32) dX5_algorithm_11 (by decide) ?_
  refine g_iconst C (5 : Int32) dX5_algorithm_12 (by decide) ?_
  refine g_callVi C (c_X5_word l G hO hwin hw) kX5_word tw_676 (Rv.of C (C.win (by decide) (by decide)) rfl (ci := 5) rfl) rfl rfl ⟨Nat.le_of_ble_eq_true rfl, Nat.le_of_ble_eq_true rfl⟩ (As := [.int (102 : Int32), .int (105 : Int32), .int (114 : Int32), .int (115 : Int32), .int (116 : Int32), .int (0 : Int32), .int (5 : Int32)]) (rest := []) rfl rfl (Nat.le_of_ble_eq_true rfl) dX5_algorithm_13 ⟨Nat.le_of_ble_eq_true rfl, Nat.le_of_ble_eq_true rfl⟩ (fun r_23 s_22 hw => ?_)
  refine g_if_eq C 21 dX5_algorithm_16 (by decide) (fun c_30 => ?_) (fun c_30 => ?_)
  · replace hw := hw.1 c_30
    refine g_aload_n C 0 dX5_algorithm_21 rfl rfl ?_
    refine g_iconst C (4 : Int32) dX5_algorithm_22 (by decide) ?_
    refine g_bipush C (111 : Int32) dX5_algorithm_23 (by decide) ?_
    refine g_bipush C (118 : Int32) dX5_algorithm_25 (by decide) ?_
    refine g_bipush C (101 : Int32) dX5_algorithm_27 (by decide) ?_
    refine g_bipush C (114 : Int32) dX5_algorithm_29 (by decide) ?_
    refine g_callVi C (c_X5_are l G hO hwin hw) kX5_are tw_709 (Rv.of C (C.win (by decide) (by decide)) rfl (ci := 5) rfl) rfl rfl ⟨Nat.le_of_ble_eq_true rfl, Nat.le_of_ble_eq_true rfl⟩ (As := [.int (4 : Int32), .int (111 : Int32), .int (118 : Int32), .int (101 : Int32), .int (114 : Int32)]) (rest := []) rfl rfl (Nat.le_of_ble_eq_true rfl) dX5_algorithm_31 ⟨Nat.le_of_ble_eq_true rfl, Nat.le_of_ble_eq_true rfl⟩ (fun r_25 s_24 hw => ?_)
    refine g_if_eq C 67 dX5_algorithm_34 (by decide) (fun c_29 => ?_) (fun c_29 => ?_)
    · replace hw := hw.1 c_29
      rw [hP67] at hw
      exact g_perm [0] rfl (hw)
    · replace hw := hw.2 c_29
      refine g_aload_n C 0 dX5_algorithm_37 rfl rfl ?_
      refine g_bipush C (100 : Int32) dX5_algorithm_38 (by decide) ?_
      refine g_bipush C (101 : Int32) dX5_algorithm_40 (by decide) ?_
      refine g_bipush C (110 : Int32) dX5_algorithm_42 (by decide) ?_
      refine g_bipush C (121 : Int32) dX5_algorithm_44 (by decide) ?_
      refine g_iconst C (0 : Int32) dX5_algorithm_46 (by decide) ?_
      refine g_iconst C (0 : Int32) dX5_algorithm_47 (by decide) ?_
      refine g_iconst C (4 : Int32) dX5_algorithm_48 (by decide) ?_
      refine g_callVi C (c_X5_word l G hO hwin hw) kX5_word tw_676 (Rv.of C (C.win (by decide) (by decide)) rfl (ci := 5) rfl) rfl rfl ⟨Nat.le_of_ble_eq_true rfl, Nat.le_of_ble_eq_true rfl⟩ (As := [.int (100 : Int32), .int (101 : Int32), .int (110 : Int32), .int (121 : Int32), .int (0 : Int32), .int (0 : Int32), .int (4 : Int32)]) (rest := []) rfl rfl (Nat.le_of_ble_eq_true rfl) dX5_algorithm_49 ⟨Nat.le_of_ble_eq_true rfl, Nat.le_of_ble_eq_true rfl⟩ (fun r_27 s_26 hw => ?_)
      refine g_if_eq C 67 dX5_algorithm_52 (by decide) (fun c_28 => ?_) (fun c_28 => ?_)
      · replace hw := hw.1 c_28
        rw [hP67] at hw
        exact g_perm [0] rfl (hw)
      · replace hw := hw.2 c_28
        refine g_aload_n C 0 dX5_algorithm_55 rfl rfl ?_
        refine g_dup C dX5_algorithm_56 rfl ?_
        refine g_get C inX5 (C.win (by decide) (by decide)) rfl rfl 8 (by decide) tw_631 rfl dX5_algorithm_57 ?_
        refine g_iconst C (4 : Int32) dX5_algorithm_60 (by decide) ?_
        refine g_iadd C dX5_algorithm_61 ?_
        refine g_put (ty := .int) ((s_26 17 8) + (4 : Int32)) C inX5 tyX5_ok nmX5 (C.win (by decide) (by decide)) rfl rfl 8 (by decide) tw_631 rfl (by decide +kernel) rfl rfl (Nat.le_of_ble_eq_true rfl) rfl dX5_algorithm_62 ?_
        refine g_iconst C (1 : Int32) dX5_algorithm_65 (by decide) ?_
        exact g_iret C hr hlk hw dX5_algorithm_66
  · replace hw := hw.2 c_30
    refine g_iconst C (0 : Int32) dX5_algorithm_19 (by decide) ?_
    exact g_iret C hr hlk hw dX5_algorithm_20

set_option maxHeartbeats 4000000 in
set_option maxRecDepth 100000 in
theorem c_X5_statement (l : Launch) (G : Gp) (hO : gOK G) (hwin : ∀ k, 17 ≤ k → k < 25 → k ∈ gks G)   {st : St} {Q : Int32 → St → Prop} (hw : wp_X5_statement  st Q) : MI l G yX5_statement cX5_statement 2 (some .boolean) { frames := 3, cells := 0, slots := 0, locals := 71 } [.ref (gh G 17)] st Q := by
  refine MI.of (own := RX5) (lo := 17) (hi := 25) hO hwin (by decide) rfl (Nat.le_of_ble_eq_true rfl) (fun p e s m args below meth c C hr hlk => ?_)
  refine g_lv (lv' := [(0, .ref (gh G 17))]) rfl ?_
  unfold wp_X5_statement at hw
  refine g_aload_n C 0 dX5_statement_0 rfl rfl ?_
  refine g_bipush C (111 : Int32) dX5_statement_1 (by decide) ?_
  refine g_bipush C (108 : Int32) dX5_statement_3 (by decide) ?_
  refine g_bipush C (100 : Int32) dX5_statement_5 (by decide) ?_
  refine g_iconst C (0 : Int32) dX5_statement_7 (by decide) ?_
  refine g_iconst C (0 : Int32) dX5_statement_8 (by decide) ?_
  refine g_iconst C (0 : Int32) dX5_statement_9 (by decide) ?_
  refine g_iconst C (3 : Int32) dX5_statement_10 (by decide) ?_
  refine g_callVi C (c_X5_word l G hO hwin hw) kX5_word tw_676 (Rv.of C (C.win (by decide) (by decide)) rfl (ci := 5) rfl) rfl rfl ⟨Nat.le_of_ble_eq_true rfl, Nat.le_of_ble_eq_true rfl⟩ (As := [.int (111 : Int32), .int (108 : Int32), .int (100 : Int32), .int (0 : Int32), .int (0 : Int32), .int (0 : Int32), .int (3 : Int32)]) (rest := []) rfl rfl (Nat.le_of_ble_eq_true rfl) dX5_statement_11 ⟨Nat.le_of_ble_eq_true rfl, Nat.le_of_ble_eq_true rfl⟩ (fun r_2 s_1 hw => ?_)
  refine g_if_eq C 24 dX5_statement_14 (by decide) (fun c_22 => ?_) (fun c_22 => ?_)
  · replace hw := hw.1 c_22
    refine g_aload_n C 0 dX5_statement_24 rfl rfl ?_
    refine g_bipush C (110 : Int32) dX5_statement_25 (by decide) ?_
    refine g_bipush C (101 : Int32) dX5_statement_27 (by decide) ?_
    refine g_bipush C (119 : Int32) dX5_statement_29 (by decide) ?_
    refine g_iconst C (0 : Int32) dX5_statement_31 (by decide) ?_
    refine g_iconst C (0 : Int32) dX5_statement_32 (by decide) ?_
    refine g_iconst C (0 : Int32) dX5_statement_33 (by decide) ?_
    refine g_iconst C (3 : Int32) dX5_statement_34 (by decide) ?_
    refine g_callVi C (c_X5_word l G hO hwin hw) kX5_word tw_676 (Rv.of C (C.win (by decide) (by decide)) rfl (ci := 5) rfl) rfl rfl ⟨Nat.le_of_ble_eq_true rfl, Nat.le_of_ble_eq_true rfl⟩ (As := [.int (110 : Int32), .int (101 : Int32), .int (119 : Int32), .int (0 : Int32), .int (0 : Int32), .int (0 : Int32), .int (3 : Int32)]) (rest := []) rfl rfl (Nat.le_of_ble_eq_true rfl) dX5_statement_35 ⟨Nat.le_of_ble_eq_true rfl, Nat.le_of_ble_eq_true rfl⟩ (fun r_4 s_3 hw => ?_)
    refine g_if_eq C 48 dX5_statement_38 (by decide) (fun c_21 => ?_) (fun c_21 => ?_)
    · replace hw := hw.1 c_21
      refine g_aload_n C 0 dX5_statement_48 rfl rfl ?_
      refine g_bipush C (112 : Int32) dX5_statement_49 (by decide) ?_
      refine g_bipush C (101 : Int32) dX5_statement_51 (by decide) ?_
      refine g_bipush C (114 : Int32) dX5_statement_53 (by decide) ?_
      refine g_bipush C (109 : Int32) dX5_statement_55 (by decide) ?_
      refine g_bipush C (105 : Int32) dX5_statement_57 (by decide) ?_
      refine g_bipush C (116 : Int32) dX5_statement_59 (by decide) ?_
      refine g_bipush C (6 : Int32) dX5_statement_61 (by decide) ?_
      refine g_callVi C (c_X5_word l G hO hwin hw) kX5_word tw_676 (Rv.of C (C.win (by decide) (by decide)) rfl (ci := 5) rfl) rfl rfl ⟨Nat.le_of_ble_eq_true rfl, Nat.le_of_ble_eq_true rfl⟩ (As := [.int (112 : Int32), .int (101 : Int32), .int (114 : Int32), .int (109 : Int32), .int (105 : Int32), .int (116 : Int32), .int (6 : Int32)]) (rest := []) rfl rfl (Nat.le_of_ble_eq_true rfl) dX5_statement_63 ⟨Nat.le_of_ble_eq_true rfl, Nat.le_of_ble_eq_true rfl⟩ (fun r_6 s_5 hw => ?_)
      refine g_if_eq C 79 dX5_statement_66 (by decide) (fun c_20 => ?_) (fun c_20 => ?_)
      · replace hw := hw.1 c_20
        refine g_aload_n C 0 dX5_statement_79 rfl rfl ?_
        refine g_bipush C (100 : Int32) dX5_statement_80 (by decide) ?_
        refine g_bipush C (101 : Int32) dX5_statement_82 (by decide) ?_
        refine g_bipush C (110 : Int32) dX5_statement_84 (by decide) ?_
        refine g_bipush C (121 : Int32) dX5_statement_86 (by decide) ?_
        refine g_iconst C (0 : Int32) dX5_statement_88 (by decide) ?_
        refine g_iconst C (0 : Int32) dX5_statement_89 (by decide) ?_
        refine g_iconst C (4 : Int32) dX5_statement_90 (by decide) ?_
        refine g_callVi C (c_X5_word l G hO hwin hw) kX5_word tw_676 (Rv.of C (C.win (by decide) (by decide)) rfl (ci := 5) rfl) rfl rfl ⟨Nat.le_of_ble_eq_true rfl, Nat.le_of_ble_eq_true rfl⟩ (As := [.int (100 : Int32), .int (101 : Int32), .int (110 : Int32), .int (121 : Int32), .int (0 : Int32), .int (0 : Int32), .int (4 : Int32)]) (rest := []) rfl rfl (Nat.le_of_ble_eq_true rfl) dX5_statement_91 ⟨Nat.le_of_ble_eq_true rfl, Nat.le_of_ble_eq_true rfl⟩ (fun r_8 s_7 hw => ?_)
        refine g_if_eq C 107 dX5_statement_94 (by decide) (fun c_17 => ?_) (fun c_17 => ?_)
        · replace hw := hw.1 c_17
          refine g_aload_n C 0 dX5_statement_107 rfl rfl ?_
          refine g_bipush C (117 : Int32) dX5_statement_108 (by decide) ?_
          refine g_bipush C (115 : Int32) dX5_statement_110 (by decide) ?_
          refine g_bipush C (101 : Int32) dX5_statement_112 (by decide) ?_
          refine g_iconst C (0 : Int32) dX5_statement_114 (by decide) ?_
          refine g_iconst C (0 : Int32) dX5_statement_115 (by decide) ?_
          refine g_iconst C (0 : Int32) dX5_statement_116 (by decide) ?_
          refine g_iconst C (3 : Int32) dX5_statement_117 (by decide) ?_
          refine g_callVi C (c_X5_word l G hO hwin hw) kX5_word tw_676 (Rv.of C (C.win (by decide) (by decide)) rfl (ci := 5) rfl) rfl rfl ⟨Nat.le_of_ble_eq_true rfl, Nat.le_of_ble_eq_true rfl⟩ (As := [.int (117 : Int32), .int (115 : Int32), .int (101 : Int32), .int (0 : Int32), .int (0 : Int32), .int (0 : Int32), .int (3 : Int32)]) (rest := []) rfl rfl (Nat.le_of_ble_eq_true rfl) dX5_statement_118 ⟨Nat.le_of_ble_eq_true rfl, Nat.le_of_ble_eq_true rfl⟩ (fun r_10 s_9 hw => ?_)
          refine g_if_ne C 126 dX5_statement_121 (by decide) (fun c_14 => ?_) (fun c_14 => ?_)
          · replace hw := hw.2 c_14
            refine g_aload_n C 0 dX5_statement_126 rfl rfl ?_
            refine g_callVi C (c_X5_algorithm l G hO hwin hw) kX5_algorithm tw_705 (Rv.of C (C.win (by decide) (by decide)) rfl (ci := 5) rfl) rfl rfl ⟨Nat.le_of_ble_eq_true rfl, Nat.le_of_ble_eq_true rfl⟩ (As := []) (rest := []) rfl rfl (Nat.le_of_ble_eq_true rfl) dX5_statement_127 ⟨Nat.le_of_ble_eq_true rfl, Nat.le_of_ble_eq_true rfl⟩ (fun r_12 s_11 hw => ?_)
            refine g_istore_n C dX5_statement_130 rfl (by decide) (lv' := [(1, .int r_12), (0, .ref (gh G 17))]) rfl ?_
            refine g_aload_n C 1 dX5_statement_131 rfl rfl ?_
            refine g_get C inX5 (C.win (by decide) (by decide)) rfl rfl 3 (by decide) tw_626 rfl dX5_statement_132 ?_
            refine g_bipush C (42 : Int32) dX5_statement_135 (by decide) ?_
            refine g_aload_n C 1 dX5_statement_137 rfl rfl ?_
            refine g_get C inX5 (C.win (by decide) (by decide)) rfl rfl 9 (by decide) tw_632 rfl dX5_statement_138 ?_
            refine g_imul C dX5_statement_141 ?_
            refine g_iconst C (1 : Int32) dX5_statement_142 (by decide) ?_
            refine g_iadd C dX5_statement_143 ?_
            refine g_iload_n C 0 dX5_statement_144 rfl rfl ?_
            refine g_iast C (C.win (by decide) (by decide)) (fun _ => rfl) hw.1 dX5_statement_145 ?_
            replace hw := hw.2
            refine g_iload_n C 0 dX5_statement_146 rfl rfl ?_
            refine g_bipush C (-4 : Int32) dX5_statement_147 (by decide) ?_
            refine g_icmp_eq C 156 dX5_statement_149 (by decide) (fun c_13 => ?_) (fun c_13 => ?_)
            · replace hw := hw.1 c_13
              refine g_iconst C (0 : Int32) dX5_statement_156 (by decide) ?_
              exact g_zret C hr hlk rfl hw dX5_statement_157
            · replace hw := hw.2 c_13
              refine g_iconst C (1 : Int32) dX5_statement_152 (by decide) ?_
              refine g_goto C 157 dX5_statement_153 (by decide) ?_
              exact g_zret C hr hlk rfl hw dX5_statement_157
          · replace hw := hw.1 c_14
            refine g_iconst C (0 : Int32) dX5_statement_124 (by decide) ?_
            exact g_zret C hr hlk rfl hw dX5_statement_125
        · replace hw := hw.2 c_17
          refine g_aload_n C 0 dX5_statement_97 rfl rfl ?_
          refine g_aload_n C 0 dX5_statement_98 rfl rfl ?_
          refine g_get C inX5 (C.win (by decide) (by decide)) rfl rfl 9 (by decide) tw_632 rfl dX5_statement_99 ?_
          refine g_iconst C (1 : Int32) dX5_statement_102 (by decide) ?_
          refine g_callVi C (c_X5_rule l G hO hwin hw) kX5_rule tw_684 (Rv.of C (C.win (by decide) (by decide)) rfl (ci := 5) rfl) rfl rfl ⟨Nat.le_of_ble_eq_true rfl, Nat.le_of_ble_eq_true rfl⟩ (As := [.int (s_7 17 9), .int (1 : Int32)]) (rest := []) rfl rfl (Nat.le_of_ble_eq_true rfl) dX5_statement_103 ⟨Nat.le_of_ble_eq_true rfl, Nat.le_of_ble_eq_true rfl⟩ (fun r_16 s_15 hw => ?_)
          exact g_zret C hr hlk (nar_bool hw.1) hw.2 dX5_statement_106
      · replace hw := hw.2 c_20
        refine g_aload_n C 0 dX5_statement_69 rfl rfl ?_
        refine g_aload_n C 0 dX5_statement_70 rfl rfl ?_
        refine g_get C inX5 (C.win (by decide) (by decide)) rfl rfl 9 (by decide) tw_632 rfl dX5_statement_71 ?_
        refine g_iconst C (0 : Int32) dX5_statement_74 (by decide) ?_
        refine g_callVi C (c_X5_rule l G hO hwin hw) kX5_rule tw_684 (Rv.of C (C.win (by decide) (by decide)) rfl (ci := 5) rfl) rfl rfl ⟨Nat.le_of_ble_eq_true rfl, Nat.le_of_ble_eq_true rfl⟩ (As := [.int (s_5 17 9), .int (0 : Int32)]) (rest := []) rfl rfl (Nat.le_of_ble_eq_true rfl) dX5_statement_75 ⟨Nat.le_of_ble_eq_true rfl, Nat.le_of_ble_eq_true rfl⟩ (fun r_19 s_18 hw => ?_)
        exact g_zret C hr hlk (nar_bool hw.1) hw.2 dX5_statement_78
    · replace hw := hw.2 c_21
      refine g_aload_n C 0 dX5_statement_41 rfl rfl ?_
      refine g_iconst C (1 : Int32) dX5_statement_42 (by decide) ?_
      refine g_put (ty := .int) (1 : Int32) C inX5 tyX5_ok nmX5 (C.win (by decide) (by decide)) rfl rfl 9 (by decide) tw_632 rfl (by decide +kernel) rfl rfl (Nat.le_of_ble_eq_true rfl) rfl dX5_statement_43 ?_
      refine g_iconst C (1 : Int32) dX5_statement_46 (by decide) ?_
      exact g_zret C hr hlk rfl hw dX5_statement_47
  · replace hw := hw.2 c_22
    refine g_aload_n C 0 dX5_statement_17 rfl rfl ?_
    refine g_iconst C (0 : Int32) dX5_statement_18 (by decide) ?_
    refine g_put (ty := .int) (0 : Int32) C inX5 tyX5_ok nmX5 (C.win (by decide) (by decide)) rfl rfl 9 (by decide) tw_632 rfl (by decide +kernel) rfl rfl (Nat.le_of_ble_eq_true rfl) rfl dX5_statement_19 ?_
    refine g_iconst C (1 : Int32) dX5_statement_22 (by decide) ?_
    exact g_zret C hr hlk rfl hw dX5_statement_23

set_option maxHeartbeats 4000000 in
set_option maxRecDepth 100000 in
theorem c_X5_syntaxError (l : Launch) (G : Gp) (hO : gOK G) (hwin : ∀ k, 17 ≤ k → k < 25 → k ∈ gks G)   {st : St} {Q : Int32 → St → Prop} (hw : wp_X5_syntaxError  st Q) : MI l G yX5_syntaxError cX5_syntaxError 2 (some .int) { frames := 4, cells := 0, slots := 0, locals := 92 } [.ref (gh G 17)] st Q := by
  refine MI.of (own := RX5) (lo := 17) (hi := 25) hO hwin (by decide) rfl (Nat.le_of_ble_eq_true rfl) (fun p e s m args below meth c C hr hlk => ?_)
  refine g_lv (lv' := [(0, .ref (gh G 17))]) rfl ?_
  unfold wp_X5_syntaxError at hw
  obtain ⟨P14, hP14⟩ : ∃ P : St → Prop, P = fun st => WG p l e ({ frames := 4, cells := 0, slots := 0, locals := 92 } : Room) s m args below meth c 0 0 (MQ below (va_Qi Q (gB G) (gA G)) args s 0 0 (gA G)) G 2 14 [(0, .ref (gh G 17))] [] st := ⟨_, rfl⟩
  replace hw := hw P14
  replace hw := hw (by
    intro st hw
    rw [hP14]
    refine g_aload_n C 0 dX5_syntaxError_14 rfl rfl ?_
    refine g_get C inX5 (C.win (by decide) (by decide)) rfl rfl 8 (by decide) tw_631 rfl dX5_syntaxError_15 ?_
    refine g_aload_n C 0 dX5_syntaxError_18 rfl rfl ?_
    refine g_get C inX5 (C.win (by decide) (by decide)) rfl rfl 0 (by decide) tw_623 rfl dX5_syntaxError_19 ?_
    refine g_icmp_ge C 61 dX5_syntaxError_22 (by decide) (fun c_8 => ?_) (fun c_8 => ?_)
    · replace hw := hw.1 c_8
      refine g_bipush C (-4 : Int32) dX5_syntaxError_61 (by decide) ?_
      exact g_iret C hr hlk hw dX5_syntaxError_63
    · replace hw := hw.2 c_8
      refine g_aload_n C 0 dX5_syntaxError_25 rfl rfl ?_
      refine g_get C inX5 (C.win (by decide) (by decide)) rfl rfl 8 (by decide) tw_631 rfl dX5_syntaxError_26 ?_
      refine g_topi (fun x1_1 ex1_1 => ?_)
      replace hw := hw x1_1 ex1_1
      refine g_istore_n C dX5_syntaxError_29 rfl (by decide) (lv' := [(1, .int x1_1), (0, .ref (gh G 17))]) rfl ?_
      refine g_aload_n C 1 dX5_syntaxError_30 rfl rfl ?_
      refine g_callVi C (c_X5_statement l G hO hwin hw) kX5_statement tw_672 (Rv.of C (C.win (by decide) (by decide)) rfl (ci := 5) rfl) rfl rfl ⟨Nat.le_of_ble_eq_true rfl, Nat.le_of_ble_eq_true rfl⟩ (As := []) (rest := []) rfl rfl (Nat.le_of_ble_eq_true rfl) dX5_syntaxError_31 ⟨Nat.le_of_ble_eq_true rfl, Nat.le_of_ble_eq_true rfl⟩ (fun r_3 s_2 hw => ?_)
      refine g_if_eq C 46 dX5_syntaxError_34 (by decide) (fun c_7 => ?_) (fun c_7 => ?_)
      · replace hw := hw.1 c_7
        refine g_iload_n C 0 dX5_syntaxError_46 rfl rfl ?_
        exact g_iret C hr hlk hw dX5_syntaxError_47
      · replace hw := hw.2 c_7
        refine g_aload_n C 1 dX5_syntaxError_37 rfl rfl ?_
        refine g_callVi C (c_X5_next l G hO hwin hw) kX5_next tw_695 (Rv.of C (C.win (by decide) (by decide)) rfl (ci := 5) rfl) rfl rfl ⟨Nat.le_of_ble_eq_true rfl, Nat.le_of_ble_eq_true rfl⟩ (As := []) (rest := []) rfl rfl (Nat.le_of_ble_eq_true rfl) dX5_syntaxError_38 ⟨Nat.le_of_ble_eq_true rfl, Nat.le_of_ble_eq_true rfl⟩ (fun r_5 s_4 hw => ?_)
        refine g_bipush C (59 : Int32) dX5_syntaxError_41 (by decide) ?_
        refine g_icmp_eq C 48 dX5_syntaxError_43 (by decide) (fun c_6 => ?_) (fun c_6 => ?_)
        · replace hw := hw.1 c_6
          refine g_aload_n C 1 dX5_syntaxError_48 rfl rfl ?_
          refine g_dup C dX5_syntaxError_49 rfl ?_
          refine g_get C inX5 (C.win (by decide) (by decide)) rfl rfl 8 (by decide) tw_631 rfl dX5_syntaxError_50 ?_
          refine g_iconst C (1 : Int32) dX5_syntaxError_53 (by decide) ?_
          refine g_iadd C dX5_syntaxError_54 ?_
          refine g_put (ty := .int) ((s_4 17 8) + (1 : Int32)) C inX5 tyX5_ok nmX5 (C.win (by decide) (by decide)) rfl rfl 8 (by decide) tw_631 rfl (by decide +kernel) rfl rfl (Nat.le_of_ble_eq_true rfl) rfl dX5_syntaxError_55 ?_
          refine g_goto C 14 dX5_syntaxError_58 (by decide) ?_
          rw [hP14] at hw
          exact g_perm [1] rfl (hw)
        · replace hw := hw.2 c_6
          refine g_iload_n C 0 dX5_syntaxError_46 rfl rfl ?_
          exact g_iret C hr hlk hw dX5_syntaxError_47)
  refine g_aload_n C 0 dX5_syntaxError_0 rfl rfl ?_
  refine g_callVv C (c_X5_clears l G hO hwin hw) kX5_clears tw_611 (Rv.of C (C.win (by decide) (by decide)) rfl (ci := 5) rfl) rfl rfl ⟨Nat.le_of_ble_eq_true rfl, Nat.le_of_ble_eq_true rfl⟩ (As := []) (rest := []) rfl rfl (Nat.le_of_ble_eq_true rfl) dX5_syntaxError_1 ⟨Nat.le_of_ble_eq_true rfl, Nat.le_of_ble_eq_true rfl⟩ (fun s_9 hw => ?_)
  refine g_aload_n C 0 dX5_syntaxError_4 rfl rfl ?_
  refine g_iconst C (0 : Int32) dX5_syntaxError_5 (by decide) ?_
  refine g_put (ty := .int) (0 : Int32) C inX5 tyX5_ok nmX5 (C.win (by decide) (by decide)) rfl rfl 8 (by decide) tw_631 rfl (by decide +kernel) rfl rfl (Nat.le_of_ble_eq_true rfl) rfl dX5_syntaxError_6 ?_
  refine g_aload_n C 0 dX5_syntaxError_9 rfl rfl ?_
  refine g_iconst C (0 : Int32) dX5_syntaxError_10 (by decide) ?_
  refine g_put (ty := .int) (0 : Int32) C inX5 tyX5_ok nmX5 (C.win (by decide) (by decide)) rfl rfl 9 (by decide) tw_632 rfl (by decide +kernel) rfl rfl (Nat.le_of_ble_eq_true rfl) rfl dX5_syntaxError_11 ?_
  rw [hP14] at hw
  exact g_perm [0] rfl (hw)

set_option maxHeartbeats 4000000 in
set_option maxRecDepth 100000 in
theorem c_X5_load (l : Launch) (G : Gp) (hO : gOK G) (hwin : ∀ k, 17 ≤ k → k < 25 → k ∈ gks G)   {st : St} {Q : Int32 → St → Prop} (hw : wp_X5_load  st Q) : MI l G yX5_load cX5_load 1 (some .int) { frames := 5, cells := 0, slots := 0, locals := 113 } [.ref (gh G 17)] st Q := by
  refine MI.of (own := RX5) (lo := 17) (hi := 25) hO hwin (by decide) rfl (Nat.le_of_ble_eq_true rfl) (fun p e s m args below meth c C hr hlk => ?_)
  refine g_lv (lv' := [(0, .ref (gh G 17))]) rfl ?_
  unfold wp_X5_load at hw
  refine g_aload_n C 0 dX5_load_0 rfl rfl ?_
  refine g_callVi C (c_X5_syntaxError l G hO hwin hw) kX5_syntaxError tw_717 (Rv.of C (C.win (by decide) (by decide)) rfl (ci := 5) rfl) rfl rfl ⟨Nat.le_of_ble_eq_true rfl, Nat.le_of_ble_eq_true rfl⟩ (As := []) (rest := []) rfl rfl (Nat.le_of_ble_eq_true rfl) dX5_load_1 ⟨Nat.le_of_ble_eq_true rfl, Nat.le_of_ble_eq_true rfl⟩ (fun r_2 s_1 hw => ?_)
  refine g_bipush C (-4 : Int32) dX5_load_4 (by decide) ?_
  refine g_icmp_eq C 12 dX5_load_6 (by decide) (fun c_4 => ?_) (fun c_4 => ?_)
  · replace hw := hw.1 c_4
    refine g_aload_n C 0 dX5_load_12 rfl rfl ?_
    refine g_callVv C (c_X5_takes l G hO hwin hw) kX5_takes tw_619 (Rv.of C (C.win (by decide) (by decide)) rfl (ci := 5) rfl) rfl rfl ⟨Nat.le_of_ble_eq_true rfl, Nat.le_of_ble_eq_true rfl⟩ (As := []) (rest := []) rfl rfl (Nat.le_of_ble_eq_true rfl) dX5_load_13 ⟨Nat.le_of_ble_eq_true rfl, Nat.le_of_ble_eq_true rfl⟩ (fun s_3 hw => ?_)
    refine g_aload_n C 0 dX5_load_16 rfl rfl ?_
    refine g_get C inX5 (C.win (by decide) (by decide)) rfl rfl 2 (by decide) tw_625 rfl dX5_load_17 ?_
    refine g_iconst C (0 : Int32) dX5_load_20 (by decide) ?_
    refine g_iald C (C.win (by decide) (by decide)) rfl hw.1 dX5_load_21 ?_
    replace hw := hw.2
    refine g_aload_n C 0 dX5_load_22 rfl rfl ?_
    refine g_get C inX5 (C.win (by decide) (by decide)) rfl rfl 2 (by decide) tw_625 rfl dX5_load_23 ?_
    refine g_bipush C (42 : Int32) dX5_load_26 (by decide) ?_
    refine g_iald C (C.win (by decide) (by decide)) rfl hw.1 dX5_load_28 ?_
    replace hw := hw.2
    refine g_iadd C dX5_load_29 ?_
    exact g_iret C hr hlk hw dX5_load_30
  · replace hw := hw.2 c_4
    refine g_bipush C (-3 : Int32) dX5_load_9 (by decide) ?_
    exact g_iret C hr hlk hw dX5_load_11

set_option maxHeartbeats 4000000 in
set_option maxRecDepth 100000 in
theorem c_X5_edit (l : Launch) (G : Gp) (hO : gOK G) (hwin : ∀ k, 17 ≤ k → k < 25 → k ∈ gks G)   {st : St} {Q : St → Prop} (hw : wp_X5_edit  st Q) : MV l G yX5_edit cX5_edit 2 { frames := 0, cells := 0, slots := 0, locals := 0 } [.ref (gh G 17)] st Q := by
  refine MV.of (own := RX5) (lo := 17) (hi := 25) hO hwin (by decide) rfl (Nat.le_of_ble_eq_true rfl) (fun p e s m args below meth c C hr hlk => ?_)
  refine g_lv (lv' := [(0, .ref (gh G 17))]) rfl ?_
  unfold wp_X5_edit at hw
  obtain ⟨P10, hP10⟩ : ∃ P : Int32 → St → Prop, P = fun x1 st => WG p l e ({ frames := 0, cells := 0, slots := 0, locals := 0 } : Room) s m args below meth c 0 0 (MQ below (va_Qv Q (gB G) (gA G)) args s 0 0 (gA G)) G 2 10 [(0, .ref (gh G 17)), (1, .int x1)] [] st := ⟨_, rfl⟩
  obtain ⟨P50, hP50⟩ : ∃ P : Int32 → St → Prop, P = fun x1 st => WG p l e ({ frames := 0, cells := 0, slots := 0, locals := 0 } : Room) s m args below meth c 0 0 (MQ below (va_Qv Q (gB G) (gA G)) args s 0 0 (gA G)) G 2 50 [(0, .ref (gh G 17)), (1, .int x1)] [] st := ⟨_, rfl⟩
  replace hw := hw P10 P50
  replace hw := hw (by
    intro x1 st hw
    rw [hP10]
    refine g_iload_n C 1 dX5_edit_10 rfl rfl ?_
    refine g_sipush C (252 : Int32) dX5_edit_11 (by decide) ?_
    refine g_icmp_ge C 38 dX5_edit_14 (by decide) (fun c_2 => ?_) (fun c_2 => ?_)
    · replace hw := hw.1 c_2
      refine g_aload_n C 0 dX5_edit_38 rfl rfl ?_
      refine g_dup C dX5_edit_39 rfl ?_
      refine g_get C inX5 (C.win (by decide) (by decide)) rfl rfl 5 (by decide) tw_628 rfl dX5_edit_40 ?_
      refine g_iconst C (1 : Int32) dX5_edit_43 (by decide) ?_
      refine g_isub C dX5_edit_44 ?_
      refine g_put (ty := .int) ((st 17 5) - (1 : Int32)) C inX5 tyX5_ok nmX5 (C.win (by decide) (by decide)) rfl rfl 5 (by decide) tw_628 rfl (by decide +kernel) rfl rfl (Nat.le_of_ble_eq_true rfl) rfl dX5_edit_45 ?_
      refine g_iconst C (0 : Int32) dX5_edit_48 (by decide) ?_
      refine g_istore_n C dX5_edit_49 rfl (by decide) (lv' := [(1, .int (0 : Int32)), (0, .ref (gh G 17))]) rfl ?_
      rw [hP50] at hw
      exact g_perm [1, 0] rfl (hw)
    · replace hw := hw.2 c_2
      refine g_aload_n C 0 dX5_edit_17 rfl rfl ?_
      refine g_get C inX5 (C.win (by decide) (by decide)) rfl rfl 4 (by decide) tw_627 rfl dX5_edit_18 ?_
      refine g_iload_n C 1 dX5_edit_21 rfl rfl ?_
      refine g_aload_n C 0 dX5_edit_22 rfl rfl ?_
      refine g_get C inX5 (C.win (by decide) (by decide)) rfl rfl 4 (by decide) tw_627 rfl dX5_edit_23 ?_
      refine g_iload_n C 1 dX5_edit_26 rfl rfl ?_
      refine g_bipush C (84 : Int32) dX5_edit_27 (by decide) ?_
      refine g_iadd C dX5_edit_29 ?_
      refine g_iald C (C.win (by decide) (by decide)) rfl hw.1 dX5_edit_30 ?_
      replace hw := hw.2
      refine g_iast C (C.win (by decide) (by decide)) (fun _ => rfl) hw.1 dX5_edit_31 ?_
      replace hw := hw.2
      obtain ⟨x1_1, ex1_1⟩ : ∃ z : Int32, z = x1 + (1 : Int32) := ⟨_, rfl⟩
      replace hw := hw x1_1 ex1_1
      refine g_iinc C x1_1 1 dX5_edit_32 rfl ex1_1.symm (by decide) (lv' := [(1, .int x1_1), (0, .ref (gh G 17))]) rfl ?_
      refine g_goto C 10 dX5_edit_35 (by decide) ?_
      rw [hP10] at hw
      exact g_perm [1, 0] rfl (hw))
  replace hw := hw (by
    intro x1 st hw
    rw [hP50]
    refine g_iload_n C 1 dX5_edit_50 rfl rfl ?_
    refine g_bipush C (84 : Int32) dX5_edit_51 (by decide) ?_
    refine g_icmp_ge C 82 dX5_edit_53 (by decide) (fun c_4 => ?_) (fun c_4 => ?_)
    · replace hw := hw.1 c_4
      refine g_aload_n C 0 dX5_edit_82 rfl rfl ?_
      refine g_dup C dX5_edit_83 rfl ?_
      refine g_get C inX5 (C.win (by decide) (by decide)) rfl rfl 5 (by decide) tw_628 rfl dX5_edit_84 ?_
      refine g_iconst C (1 : Int32) dX5_edit_87 (by decide) ?_
      refine g_iadd C dX5_edit_88 ?_
      refine g_put (ty := .int) ((st 17 5) + (1 : Int32)) C inX5 tyX5_ok nmX5 (C.win (by decide) (by decide)) rfl rfl 5 (by decide) tw_628 rfl (by decide +kernel) rfl rfl (Nat.le_of_ble_eq_true rfl) rfl dX5_edit_89 ?_
      exact g_vret C hr hlk hw dX5_edit_92
    · replace hw := hw.2 c_4
      refine g_aload_n C 0 dX5_edit_56 rfl rfl ?_
      refine g_get C inX5 (C.win (by decide) (by decide)) rfl rfl 4 (by decide) tw_627 rfl dX5_edit_57 ?_
      refine g_bipush C (84 : Int32) dX5_edit_60 (by decide) ?_
      refine g_aload_n C 0 dX5_edit_62 rfl rfl ?_
      refine g_get C inX5 (C.win (by decide) (by decide)) rfl rfl 5 (by decide) tw_628 rfl dX5_edit_63 ?_
      refine g_imul C dX5_edit_66 ?_
      refine g_iload_n C 1 dX5_edit_67 rfl rfl ?_
      refine g_iadd C dX5_edit_68 ?_
      refine g_aload_n C 0 dX5_edit_69 rfl rfl ?_
      refine g_get C inX5 (C.win (by decide) (by decide)) rfl rfl 2 (by decide) tw_625 rfl dX5_edit_70 ?_
      refine g_iload_n C 1 dX5_edit_73 rfl rfl ?_
      refine g_iald C (C.win (by decide) (by decide)) rfl hw.1 dX5_edit_74 ?_
      replace hw := hw.2
      refine g_iast C (C.win (by decide) (by decide)) (fun _ => rfl) hw.1 dX5_edit_75 ?_
      replace hw := hw.2
      obtain ⟨x1_3, ex1_3⟩ : ∃ z : Int32, z = x1 + (1 : Int32) := ⟨_, rfl⟩
      replace hw := hw x1_3 ex1_3
      refine g_iinc C x1_3 1 dX5_edit_76 rfl ex1_3.symm (by decide) (lv' := [(1, .int x1_3), (0, .ref (gh G 17))]) rfl ?_
      refine g_goto C 50 dX5_edit_79 (by decide) ?_
      rw [hP50] at hw
      exact g_perm [1, 0] rfl (hw))
  refine g_aload_n C 0 dX5_edit_0 rfl rfl ?_
  refine g_get C inX5 (C.win (by decide) (by decide)) rfl rfl 5 (by decide) tw_628 rfl dX5_edit_1 ?_
  refine g_iconst C (4 : Int32) dX5_edit_4 (by decide) ?_
  refine g_icmp_ne C 48 dX5_edit_5 (by decide) (fun c_5 => ?_) (fun c_5 => ?_)
  · replace hw := hw.2 c_5
    refine g_iconst C (0 : Int32) dX5_edit_48 (by decide) ?_
    refine g_istore_n C dX5_edit_49 rfl (by decide) (lv' := [(1, .int (0 : Int32)), (0, .ref (gh G 17))]) rfl ?_
    rw [hP50] at hw
    exact g_perm [1, 0] rfl (hw)
  · replace hw := hw.1 c_5
    refine g_iconst C (0 : Int32) dX5_edit_8 (by decide) ?_
    refine g_istore_n C dX5_edit_9 rfl (by decide) (lv' := [(1, .int (0 : Int32)), (0, .ref (gh G 17))]) rfl ?_
    rw [hP10] at hw
    exact g_perm [1, 0] rfl (hw)

set_option maxHeartbeats 4000000 in
set_option maxRecDepth 100000 in
theorem c_X5_undo (l : Launch) (G : Gp) (hO : gOK G) (hwin : ∀ k, 17 ≤ k → k < 25 → k ∈ gks G)   {st : St} {Q : Int32 → St → Prop} (hw : wp_X5_undo  st Q) : MI l G yX5_undo cX5_undo 2 (some .int) { frames := 0, cells := 0, slots := 0, locals := 0 } [.ref (gh G 17)] st Q := by
  refine MI.of (own := RX5) (lo := 17) (hi := 25) hO hwin (by decide) rfl (Nat.le_of_ble_eq_true rfl) (fun p e s m args below meth c C hr hlk => ?_)
  refine g_lv (lv' := [(0, .ref (gh G 17))]) rfl ?_
  unfold wp_X5_undo at hw
  obtain ⟨P22, hP22⟩ : ∃ P : Int32 → St → Prop, P = fun x1 st => WG p l e ({ frames := 0, cells := 0, slots := 0, locals := 0 } : Room) s m args below meth c 0 0 (MQ below (va_Qi Q (gB G) (gA G)) args s 0 0 (gA G)) G 2 22 [(0, .ref (gh G 17)), (1, .int x1)] [] st := ⟨_, rfl⟩
  replace hw := hw P22
  replace hw := hw (by
    intro x1 st hw
    rw [hP22]
    refine g_iload_n C 1 dX5_undo_22 rfl rfl ?_
    refine g_bipush C (84 : Int32) dX5_undo_23 (by decide) ?_
    refine g_icmp_ge C 54 dX5_undo_25 (by decide) (fun c_2 => ?_) (fun c_2 => ?_)
    · replace hw := hw.1 c_2
      refine g_aload_n C 0 dX5_undo_54 rfl rfl ?_
      refine g_get C inX5 (C.win (by decide) (by decide)) rfl rfl 5 (by decide) tw_628 rfl dX5_undo_55 ?_
      exact g_iret C hr hlk hw dX5_undo_58
    · replace hw := hw.2 c_2
      refine g_aload_n C 0 dX5_undo_28 rfl rfl ?_
      refine g_get C inX5 (C.win (by decide) (by decide)) rfl rfl 2 (by decide) tw_625 rfl dX5_undo_29 ?_
      refine g_iload_n C 1 dX5_undo_32 rfl rfl ?_
      refine g_aload_n C 0 dX5_undo_33 rfl rfl ?_
      refine g_get C inX5 (C.win (by decide) (by decide)) rfl rfl 4 (by decide) tw_627 rfl dX5_undo_34 ?_
      refine g_bipush C (84 : Int32) dX5_undo_37 (by decide) ?_
      refine g_aload_n C 0 dX5_undo_39 rfl rfl ?_
      refine g_get C inX5 (C.win (by decide) (by decide)) rfl rfl 5 (by decide) tw_628 rfl dX5_undo_40 ?_
      refine g_imul C dX5_undo_43 ?_
      refine g_iload_n C 1 dX5_undo_44 rfl rfl ?_
      refine g_iadd C dX5_undo_45 ?_
      refine g_iald C (C.win (by decide) (by decide)) rfl hw.1 dX5_undo_46 ?_
      replace hw := hw.2
      refine g_iast C (C.win (by decide) (by decide)) (fun _ => rfl) hw.1 dX5_undo_47 ?_
      replace hw := hw.2
      obtain ⟨x1_1, ex1_1⟩ : ∃ z : Int32, z = x1 + (1 : Int32) := ⟨_, rfl⟩
      replace hw := hw x1_1 ex1_1
      refine g_iinc C x1_1 1 dX5_undo_48 rfl ex1_1.symm (by decide) (lv' := [(1, .int x1_1), (0, .ref (gh G 17))]) rfl ?_
      refine g_goto C 22 dX5_undo_51 (by decide) ?_
      rw [hP22] at hw
      exact g_perm [1, 0] rfl (hw))
  refine g_aload_n C 0 dX5_undo_0 rfl rfl ?_
  refine g_get C inX5 (C.win (by decide) (by decide)) rfl rfl 5 (by decide) tw_628 rfl dX5_undo_1 ?_
  refine g_if_ne C 10 dX5_undo_4 (by decide) (fun c_3 => ?_) (fun c_3 => ?_)
  · replace hw := hw.2 c_3
    refine g_aload_n C 0 dX5_undo_10 rfl rfl ?_
    refine g_dup C dX5_undo_11 rfl ?_
    refine g_get C inX5 (C.win (by decide) (by decide)) rfl rfl 5 (by decide) tw_628 rfl dX5_undo_12 ?_
    refine g_iconst C (1 : Int32) dX5_undo_15 (by decide) ?_
    refine g_isub C dX5_undo_16 ?_
    refine g_put (ty := .int) ((st 17 5) - (1 : Int32)) C inX5 tyX5_ok nmX5 (C.win (by decide) (by decide)) rfl rfl 5 (by decide) tw_628 rfl (by decide +kernel) rfl rfl (Nat.le_of_ble_eq_true rfl) rfl dX5_undo_17 ?_
    refine g_iconst C (0 : Int32) dX5_undo_20 (by decide) ?_
    refine g_istore_n C dX5_undo_21 rfl (by decide) (lv' := [(1, .int (0 : Int32)), (0, .ref (gh G 17))]) rfl ?_
    rw [hP22] at hw
    exact g_perm [1, 0] rfl (hw)
  · replace hw := hw.1 c_3
    refine g_bipush C (-3 : Int32) dX5_undo_7 (by decide) ?_
    exact g_iret C hr hlk hw dX5_undo_9

set_option maxHeartbeats 4000000 in
set_option maxRecDepth 100000 in
theorem c_X5_isPolicy (l : Launch) (G : Gp) (hO : gOK G) (hwin : ∀ k, 17 ≤ k → k < 25 → k ∈ gks G) {x0 : Int32}  {st : St} {Q : Int32 → St → Prop} (hw : wp_X5_isPolicy x0 st Q) : MI l G yX5_isPolicy cX5_isPolicy 1 (some .boolean) { frames := 1, cells := 0, slots := 0, locals := 22 } [.int x0] st Q := by
  refine MI.of (own := RX5) (lo := 17) (hi := 25) hO hwin (by decide) rfl (Nat.le_of_ble_eq_true rfl) (fun p e s m args below meth c C hr hlk => ?_)
  refine g_lv (lv' := [(0, .int x0)]) rfl ?_
  unfold wp_X5_isPolicy at hw
  refine g_iload_n C 0 dX5_isPolicy_0 rfl rfl ?_
  refine g_iconst C (0 : Int32) dX5_isPolicy_1 (by decide) ?_
  refine g_iconst C (1 : Int32) dX5_isPolicy_2 (by decide) ?_
  refine g_callSi C (c_X5_in l G hO hwin hw) kX5_in tw_661 rfl rfl ⟨Nat.le_of_ble_eq_true rfl, Nat.le_of_ble_eq_true rfl⟩ (As := [.int x0, .int (0 : Int32), .int (1 : Int32)]) (rest := []) rfl rfl (Nat.le_of_ble_eq_true rfl) dX5_isPolicy_3 ⟨Nat.le_of_ble_eq_true rfl, Nat.le_of_ble_eq_true rfl⟩ (fun r_2 s_1 hw => ?_)
  exact g_zret C hr hlk (nar_bool hw.1) hw.2 dX5_isPolicy_6

set_option maxHeartbeats 4000000 in
set_option maxRecDepth 100000 in
theorem c_X5_isRule (l : Launch) (G : Gp) (hO : gOK G) (hwin : ∀ k, 17 ≤ k → k < 25 → k ∈ gks G) {x1 : Int32} {x2 : Int32}  {st : St} {Q : Int32 → St → Prop} (hw : wp_X5_isRule x1 x2 st Q) : MI l G yX5_isRule cX5_isRule 3 (some .boolean) { frames := 2, cells := 0, slots := 0, locals := 42 } [.ref (gh G 17), .int x1, .int x2] st Q := by
  refine MI.of (own := RX5) (lo := 17) (hi := 25) hO hwin (by decide) rfl (Nat.le_of_ble_eq_true rfl) (fun p e s m args below meth c C hr hlk => ?_)
  refine g_lv (lv' := [(0, .ref (gh G 17)), (1, .int x1), (2, .int x2)]) rfl ?_
  unfold wp_X5_isRule at hw
  refine g_iload_n C 1 dX5_isRule_0 rfl rfl ?_
  refine g_callSi C (c_X5_isPolicy l G hO hwin hw) kX5_isPolicy tw_726 rfl rfl ⟨Nat.le_of_ble_eq_true rfl, Nat.le_of_ble_eq_true rfl⟩ (As := [.int x1]) (rest := []) rfl rfl (Nat.le_of_ble_eq_true rfl) dX5_isRule_1 ⟨Nat.le_of_ble_eq_true rfl, Nat.le_of_ble_eq_true rfl⟩ (fun r_2 s_1 hw => ?_)
  refine g_if_eq C 30 dX5_isRule_4 (by decide) (fun c_6 => ?_) (fun c_6 => ?_)
  · replace hw := hw.1 c_6
    refine g_iconst C (0 : Int32) dX5_isRule_30 (by decide) ?_
    exact g_zret C hr hlk rfl hw dX5_isRule_31
  · replace hw := hw.2 c_6
    refine g_iload_n C 2 dX5_isRule_7 rfl rfl ?_
    refine g_iconst C (0 : Int32) dX5_isRule_8 (by decide) ?_
    refine g_aload_n C 0 dX5_isRule_9 rfl rfl ?_
    refine g_get C inX5 (C.win (by decide) (by decide)) rfl rfl 2 (by decide) tw_625 rfl dX5_isRule_10 ?_
    refine g_bipush C (42 : Int32) dX5_isRule_13 (by decide) ?_
    refine g_iload_n C 1 dX5_isRule_15 rfl rfl ?_
    refine g_imul C dX5_isRule_16 ?_
    refine g_iald C (C.win (by decide) (by decide)) rfl hw.1 dX5_isRule_17 ?_
    replace hw := hw.2
    refine g_iconst C (1 : Int32) dX5_isRule_18 (by decide) ?_
    refine g_isub C dX5_isRule_19 ?_
    refine g_callSi C (c_X5_in l G hO hwin hw) kX5_in tw_661 rfl rfl ⟨Nat.le_of_ble_eq_true rfl, Nat.le_of_ble_eq_true rfl⟩ (As := [.int x2, .int (0 : Int32), .int ((s_1 19 ((42 : Int32) * x1).toNatClampNeg) - (1 : Int32))]) (rest := []) rfl rfl (Nat.le_of_ble_eq_true rfl) dX5_isRule_20 ⟨Nat.le_of_ble_eq_true rfl, Nat.le_of_ble_eq_true rfl⟩ (fun r_4 s_3 hw => ?_)
    refine g_if_eq C 30 dX5_isRule_23 (by decide) (fun c_5 => ?_) (fun c_5 => ?_)
    · replace hw := hw.1 c_5
      refine g_iconst C (0 : Int32) dX5_isRule_30 (by decide) ?_
      exact g_zret C hr hlk rfl hw dX5_isRule_31
    · replace hw := hw.2 c_5
      refine g_iconst C (1 : Int32) dX5_isRule_26 (by decide) ?_
      refine g_goto C 31 dX5_isRule_27 (by decide) ?_
      exact g_zret C hr hlk rfl hw dX5_isRule_31

set_option maxHeartbeats 4000000 in
set_option maxRecDepth 100000 in
theorem c_X5_copies (l : Launch) (G : Gp) (hO : gOK G) (hwin : ∀ k, 17 ≤ k → k < 25 → k ∈ gks G) {x1 : Int32} {x2 : Int32} {x3 : Int32}  {st : St} {Q : St → Prop} (hw : wp_X5_copies x1 x2 x3 st Q) : MV l G yX5_copies cX5_copies 6 { frames := 0, cells := 0, slots := 0, locals := 0 } [.ref (gh G 17), .int x1, .int x2, .int x3] st Q := by
  refine MV.of (own := RX5) (lo := 17) (hi := 25) hO hwin (by decide) rfl (Nat.le_of_ble_eq_true rfl) (fun p e s m args below meth c C hr hlk => ?_)
  refine g_lv (lv' := [(0, .ref (gh G 17)), (1, .int x1), (2, .int x2), (3, .int x3)]) rfl ?_
  unfold wp_X5_copies at hw
  obtain ⟨P11, hP11⟩ : ∃ P : Int32 → Int32 → St → Prop, P = fun x4 x5 st => WG p l e ({ frames := 0, cells := 0, slots := 0, locals := 0 } : Room) s m args below meth c 0 0 (MQ below (va_Qv Q (gB G) (gA G)) args s 0 0 (gA G)) G 6 11 [(0, .ref (gh G 17)), (1, .int x1), (2, .int x2), (3, .int x3), (4, .int x4), (5, .int x5)] [] st := ⟨_, rfl⟩
  replace hw := hw P11
  replace hw := hw (by
    intro x4 x5 st hw
    rw [hP11]
    refine g_iload C 5 dX5_copies_11 rfl ?_
    refine g_iconst C (5 : Int32) dX5_copies_13 (by decide) ?_
    refine g_icmp_ge C 51 dX5_copies_14 (by decide) (fun c_2 => ?_) (fun c_2 => ?_)
    · replace hw := hw.1 c_2
      exact g_vret C hr hlk hw dX5_copies_51
    · replace hw := hw.2 c_2
      refine g_aload_n C 0 dX5_copies_17 rfl rfl ?_
      refine g_get C inX5 (C.win (by decide) (by decide)) rfl rfl 2 (by decide) tw_625 rfl dX5_copies_18 ?_
      refine g_iload C 4 dX5_copies_21 rfl ?_
      refine g_iconst C (5 : Int32) dX5_copies_23 (by decide) ?_
      refine g_iload_n C 3 dX5_copies_24 rfl rfl ?_
      refine g_imul C dX5_copies_25 ?_
      refine g_iadd C dX5_copies_26 ?_
      refine g_iload C 5 dX5_copies_27 rfl ?_
      refine g_iadd C dX5_copies_29 ?_
      refine g_aload_n C 0 dX5_copies_30 rfl rfl ?_
      refine g_get C inX5 (C.win (by decide) (by decide)) rfl rfl 2 (by decide) tw_625 rfl dX5_copies_31 ?_
      refine g_iload C 4 dX5_copies_34 rfl ?_
      refine g_iconst C (5 : Int32) dX5_copies_36 (by decide) ?_
      refine g_iload_n C 2 dX5_copies_37 rfl rfl ?_
      refine g_imul C dX5_copies_38 ?_
      refine g_iadd C dX5_copies_39 ?_
      refine g_iload C 5 dX5_copies_40 rfl ?_
      refine g_iadd C dX5_copies_42 ?_
      refine g_iald C (C.win (by decide) (by decide)) rfl hw.1 dX5_copies_43 ?_
      replace hw := hw.2
      refine g_iast C (C.win (by decide) (by decide)) (fun _ => rfl) hw.1 dX5_copies_44 ?_
      replace hw := hw.2
      obtain ⟨x5_1, ex5_1⟩ : ∃ z : Int32, z = x5 + (1 : Int32) := ⟨_, rfl⟩
      replace hw := hw x5_1 ex5_1
      refine g_iinc C x5_1 5 dX5_copies_45 rfl ex5_1.symm (by decide) (lv' := [(5, .int x5_1), (0, .ref (gh G 17)), (1, .int x1), (2, .int x2), (3, .int x3), (4, .int x4)]) rfl ?_
      refine g_goto C 11 dX5_copies_48 (by decide) ?_
      rw [hP11] at hw
      exact g_perm [1, 2, 3, 4, 5, 0] rfl (hw))
  refine g_bipush C (42 : Int32) dX5_copies_0 (by decide) ?_
  refine g_iload_n C 1 dX5_copies_2 rfl rfl ?_
  refine g_imul C dX5_copies_3 ?_
  refine g_iconst C (2 : Int32) dX5_copies_4 (by decide) ?_
  refine g_iadd C dX5_copies_5 ?_
  refine g_topi (fun x4_3 ex4_3 => ?_)
  replace hw := hw x4_3 ex4_3
  refine g_istore C dX5_copies_6 (by decide) (lv' := [(4, .int x4_3), (0, .ref (gh G 17)), (1, .int x1), (2, .int x2), (3, .int x3)]) rfl ?_
  refine g_iconst C (0 : Int32) dX5_copies_8 (by decide) ?_
  refine g_istore C dX5_copies_9 (by decide) (lv' := [(5, .int (0 : Int32)), (4, .int x4_3), (0, .ref (gh G 17)), (1, .int x1), (2, .int x2), (3, .int x3)]) rfl ?_
  rw [hP11] at hw
  exact g_perm [2, 3, 4, 5, 1, 0] rfl (hw)

set_option maxHeartbeats 4000000 in
set_option maxRecDepth 100000 in
theorem c_X5_addRule (l : Launch) (G : Gp) (hO : gOK G) (hwin : ∀ k, 17 ≤ k → k < 25 → k ∈ gks G) {x1 : Int32} {x2 : Int32} {x3 : Int32}  {st : St} {Q : Int32 → St → Prop} (hw : wp_X5_addRule x1 x2 x3 st Q) : MI l G yX5_addRule cX5_addRule 6 (some .int) { frames := 2, cells := 0, slots := 0, locals := 42 } [.ref (gh G 17), .int x1, .int x2, .int x3] st Q := by
  refine MI.of (own := RX5) (lo := 17) (hi := 25) hO hwin (by decide) rfl (Nat.le_of_ble_eq_true rfl) (fun p e s m args below meth c C hr hlk => ?_)
  refine g_lv (lv' := [(0, .ref (gh G 17)), (1, .int x1), (2, .int x2), (3, .int x3)]) rfl ?_
  unfold wp_X5_addRule at hw
  obtain ⟨P67, hP67⟩ : ∃ P : Int32 → St → Prop, P = fun x4 st => WG p l e ({ frames := 2, cells := 0, slots := 0, locals := 42 } : Room) s m args below meth c 0 0 (MQ below (va_Qi Q (gB G) (gA G)) args s 0 0 (gA G)) G 6 67 [(0, .ref (gh G 17)), (1, .int x1), (2, .int x2), (3, .int x3), (4, .int x4)] [] st := ⟨_, rfl⟩
  obtain ⟨P113, hP113⟩ : ∃ P : Int32 → Int32 → St → Prop, P = fun x4 x5 st => WG p l e ({ frames := 2, cells := 0, slots := 0, locals := 42 } : Room) s m args below meth c 0 0 (MQ below (va_Qi Q (gB G) (gA G)) args s 0 0 (gA G)) G 6 113 [(0, .ref (gh G 17)), (1, .int x1), (2, .int x2), (3, .int x3), (4, .int x4), (5, .int x5)] [] st := ⟨_, rfl⟩
  replace hw := hw P67 P113
  replace hw := hw (by
    intro x4 st hw
    rw [hP67]
    refine g_iload C 4 dX5_addRule_67 rfl ?_
    refine g_iload_n C 2 dX5_addRule_69 rfl rfl ?_
    refine g_icmp_le C 90 dX5_addRule_70 (by decide) (fun c_4 => ?_) (fun c_4 => ?_)
    · replace hw := hw.1 c_4
      refine g_bipush C (42 : Int32) dX5_addRule_90 (by decide) ?_
      refine g_iload_n C 1 dX5_addRule_92 rfl rfl ?_
      refine g_imul C dX5_addRule_93 ?_
      refine g_iconst C (2 : Int32) dX5_addRule_94 (by decide) ?_
      refine g_iadd C dX5_addRule_95 ?_
      refine g_iconst C (5 : Int32) dX5_addRule_96 (by decide) ?_
      refine g_iload_n C 2 dX5_addRule_97 rfl rfl ?_
      refine g_imul C dX5_addRule_98 ?_
      refine g_iadd C dX5_addRule_99 ?_
      refine g_topi (fun x4_1 ex4_1 => ?_)
      replace hw := hw x4_1 ex4_1
      refine g_istore C dX5_addRule_100 (by decide) (lv' := [(4, .int x4_1), (0, .ref (gh G 17)), (1, .int x1), (2, .int x2), (3, .int x3)]) rfl ?_
      refine g_aload_n C 1 dX5_addRule_102 rfl rfl ?_
      refine g_get C inX5 (C.win (by decide) (by decide)) rfl rfl 2 (by decide) tw_625 rfl dX5_addRule_103 ?_
      refine g_iload C 0 dX5_addRule_106 rfl ?_
      refine g_iload_n C 4 dX5_addRule_108 rfl rfl ?_
      refine g_iast C (C.win (by decide) (by decide)) (fun _ => rfl) hw.1 dX5_addRule_109 ?_
      replace hw := hw.2
      refine g_iconst C (0 : Int32) dX5_addRule_110 (by decide) ?_
      refine g_istore C dX5_addRule_111 (by decide) (lv' := [(5, .int (0 : Int32)), (4, .int x4_1), (0, .ref (gh G 17)), (1, .int x1), (2, .int x2), (3, .int x3)]) rfl ?_
      rw [hP113] at hw
      exact g_perm [2, 3, 4, 5, 1, 0] rfl (hw)
    · replace hw := hw.2 c_4
      refine g_aload_n C 0 dX5_addRule_73 rfl rfl ?_
      refine g_iload_n C 1 dX5_addRule_74 rfl rfl ?_
      refine g_iload C 4 dX5_addRule_75 rfl ?_
      refine g_iconst C (1 : Int32) dX5_addRule_77 (by decide) ?_
      refine g_isub C dX5_addRule_78 ?_
      refine g_iload C 4 dX5_addRule_79 rfl ?_
      refine g_callVv C (c_X5_copies l G hO hwin hw) kX5_copies tw_733 (Rv.of C (C.win (by decide) (by decide)) rfl (ci := 5) rfl) rfl rfl ⟨Nat.le_of_ble_eq_true rfl, Nat.le_of_ble_eq_true rfl⟩ (As := [.int x1, .int (x4 - (1 : Int32)), .int x4]) (rest := []) rfl rfl (Nat.le_of_ble_eq_true rfl) dX5_addRule_81 ⟨Nat.le_of_ble_eq_true rfl, Nat.le_of_ble_eq_true rfl⟩ (fun s_2 hw => ?_)
      obtain ⟨x4_3, ex4_3⟩ : ∃ z : Int32, z = x4 + (-1 : Int32) := ⟨_, rfl⟩
      replace hw := hw x4_3 ex4_3
      refine g_iinc C x4_3 4 dX5_addRule_84 rfl ex4_3.symm (by decide) (lv' := [(4, .int x4_3), (0, .ref (gh G 17)), (1, .int x1), (2, .int x2), (3, .int x3)]) rfl ?_
      refine g_goto C 67 dX5_addRule_87 (by decide) ?_
      rw [hP67] at hw
      exact g_perm [1, 2, 3, 4, 0] rfl (hw))
  replace hw := hw (by
    intro x4 x5 st hw
    rw [hP113]
    refine g_iload C 5 dX5_addRule_113 rfl ?_
    refine g_iconst C (4 : Int32) dX5_addRule_115 (by decide) ?_
    refine g_icmp_ge C 146 dX5_addRule_116 (by decide) (fun c_8 => ?_) (fun c_8 => ?_)
    · replace hw := hw.1 c_8
      refine g_aload_n C 0 dX5_addRule_146 rfl rfl ?_
      refine g_get C inX5 (C.win (by decide) (by decide)) rfl rfl 2 (by decide) tw_625 rfl dX5_addRule_147 ?_
      refine g_bipush C (42 : Int32) dX5_addRule_150 (by decide) ?_
      refine g_iload_n C 1 dX5_addRule_152 rfl rfl ?_
      refine g_imul C dX5_addRule_153 ?_
      refine g_dup2 C dX5_addRule_154 rfl rfl ?_
      refine g_iald C (C.win (by decide) (by decide)) rfl hw.1 dX5_addRule_155 ?_
      replace hw := hw.2
      refine g_iconst C (1 : Int32) dX5_addRule_156 (by decide) ?_
      refine g_iadd C dX5_addRule_157 ?_
      refine g_iast C (C.win (by decide) (by decide)) (fun _ => rfl) hw.1 dX5_addRule_158 ?_
      replace hw := hw.2
      refine g_aload_n C 0 dX5_addRule_159 rfl rfl ?_
      refine g_get C inX5 (C.win (by decide) (by decide)) rfl rfl 2 (by decide) tw_625 rfl dX5_addRule_160 ?_
      refine g_bipush C (42 : Int32) dX5_addRule_163 (by decide) ?_
      refine g_iload_n C 1 dX5_addRule_165 rfl rfl ?_
      refine g_imul C dX5_addRule_166 ?_
      refine g_iald C (C.win (by decide) (by decide)) rfl hw.1 dX5_addRule_167 ?_
      replace hw := hw.2
      exact g_iret C hr hlk hw dX5_addRule_168
    · replace hw := hw.2 c_8
      refine g_aload_n C 0 dX5_addRule_119 rfl rfl ?_
      refine g_get C inX5 (C.win (by decide) (by decide)) rfl rfl 2 (by decide) tw_625 rfl dX5_addRule_120 ?_
      refine g_iload C 4 dX5_addRule_123 rfl ?_
      refine g_iconst C (1 : Int32) dX5_addRule_125 (by decide) ?_
      refine g_iadd C dX5_addRule_126 ?_
      refine g_iload C 5 dX5_addRule_127 rfl ?_
      refine g_iadd C dX5_addRule_129 ?_
      refine g_iconst C (1 : Int32) dX5_addRule_130 (by decide) ?_
      refine g_iload C 5 dX5_addRule_131 rfl ?_
      refine g_callSi C (c_X5_valuesOf l G hO hwin hw) kX5_valuesOf tw_688 rfl rfl ⟨Nat.le_of_ble_eq_true rfl, Nat.le_of_ble_eq_true rfl⟩ (As := [.int x5]) (rest := [.int (1 : Int32), .int ((x4 + (1 : Int32)) + x5), .ref (gh G 19)]) rfl rfl (Nat.le_of_ble_eq_true rfl) dX5_addRule_133 ⟨Nat.le_of_ble_eq_true rfl, Nat.le_of_ble_eq_true rfl⟩ (fun r_6 s_5 hw => ?_)
      refine g_ishl C dX5_addRule_136 ?_
      refine g_iconst C (1 : Int32) dX5_addRule_137 (by decide) ?_
      refine g_isub C dX5_addRule_138 ?_
      refine g_iast C (C.win (by decide) (by decide)) (fun _ => rfl) hw.1 dX5_addRule_139 ?_
      replace hw := hw.2
      obtain ⟨x5_7, ex5_7⟩ : ∃ z : Int32, z = x5 + (1 : Int32) := ⟨_, rfl⟩
      replace hw := hw x5_7 ex5_7
      refine g_iinc C x5_7 5 dX5_addRule_140 rfl ex5_7.symm (by decide) (lv' := [(5, .int x5_7), (0, .ref (gh G 17)), (1, .int x1), (2, .int x2), (3, .int x3), (4, .int x4)]) rfl ?_
      refine g_goto C 113 dX5_addRule_143 (by decide) ?_
      rw [hP113] at hw
      exact g_perm [1, 2, 3, 4, 5, 0] rfl (hw))
  refine g_iload_n C 1 dX5_addRule_0 rfl rfl ?_
  refine g_callSi C (c_X5_isPolicy l G hO hwin hw) kX5_isPolicy tw_726 rfl rfl ⟨Nat.le_of_ble_eq_true rfl, Nat.le_of_ble_eq_true rfl⟩ (As := [.int x1]) (rest := []) rfl rfl (Nat.le_of_ble_eq_true rfl) dX5_addRule_1 ⟨Nat.le_of_ble_eq_true rfl, Nat.le_of_ble_eq_true rfl⟩ (fun r_10 s_9 hw => ?_)
  refine g_if_eq C 33 dX5_addRule_4 (by decide) (fun c_20 => ?_) (fun c_20 => ?_)
  · replace hw := hw.1 c_20
    refine g_iconst C (-1 : Int32) dX5_addRule_33 (by decide) ?_
    exact g_iret C hr hlk hw dX5_addRule_34
  · replace hw := hw.2 c_20
    refine g_iload_n C 2 dX5_addRule_7 rfl rfl ?_
    refine g_iconst C (0 : Int32) dX5_addRule_8 (by decide) ?_
    refine g_aload_n C 0 dX5_addRule_9 rfl rfl ?_
    refine g_get C inX5 (C.win (by decide) (by decide)) rfl rfl 2 (by decide) tw_625 rfl dX5_addRule_10 ?_
    refine g_bipush C (42 : Int32) dX5_addRule_13 (by decide) ?_
    refine g_iload_n C 1 dX5_addRule_15 rfl rfl ?_
    refine g_imul C dX5_addRule_16 ?_
    refine g_iald C (C.win (by decide) (by decide)) rfl hw.1 dX5_addRule_17 ?_
    replace hw := hw.2
    refine g_callSi C (c_X5_in l G hO hwin hw) kX5_in tw_661 rfl rfl ⟨Nat.le_of_ble_eq_true rfl, Nat.le_of_ble_eq_true rfl⟩ (As := [.int x2, .int (0 : Int32), .int (s_9 19 ((42 : Int32) * x1).toNatClampNeg)]) (rest := []) rfl rfl (Nat.le_of_ble_eq_true rfl) dX5_addRule_18 ⟨Nat.le_of_ble_eq_true rfl, Nat.le_of_ble_eq_true rfl⟩ (fun r_12 s_11 hw => ?_)
    refine g_if_eq C 33 dX5_addRule_21 (by decide) (fun c_19 => ?_) (fun c_19 => ?_)
    · replace hw := hw.1 c_19
      refine g_iconst C (-1 : Int32) dX5_addRule_33 (by decide) ?_
      exact g_iret C hr hlk hw dX5_addRule_34
    · replace hw := hw.2 c_19
      refine g_iload_n C 3 dX5_addRule_24 rfl rfl ?_
      refine g_iconst C (0 : Int32) dX5_addRule_25 (by decide) ?_
      refine g_iconst C (1 : Int32) dX5_addRule_26 (by decide) ?_
      refine g_callSi C (c_X5_in l G hO hwin hw) kX5_in tw_661 rfl rfl ⟨Nat.le_of_ble_eq_true rfl, Nat.le_of_ble_eq_true rfl⟩ (As := [.int x3, .int (0 : Int32), .int (1 : Int32)]) (rest := []) rfl rfl (Nat.le_of_ble_eq_true rfl) dX5_addRule_27 ⟨Nat.le_of_ble_eq_true rfl, Nat.le_of_ble_eq_true rfl⟩ (fun r_14 s_13 hw => ?_)
      refine g_if_ne C 35 dX5_addRule_30 (by decide) (fun c_18 => ?_) (fun c_18 => ?_)
      · replace hw := hw.2 c_18
        refine g_aload_n C 0 dX5_addRule_35 rfl rfl ?_
        refine g_get C inX5 (C.win (by decide) (by decide)) rfl rfl 2 (by decide) tw_625 rfl dX5_addRule_36 ?_
        refine g_bipush C (42 : Int32) dX5_addRule_39 (by decide) ?_
        refine g_iload_n C 1 dX5_addRule_41 rfl rfl ?_
        refine g_imul C dX5_addRule_42 ?_
        refine g_iald C (C.win (by decide) (by decide)) rfl hw.1 dX5_addRule_43 ?_
        replace hw := hw.2
        refine g_bipush C (8 : Int32) dX5_addRule_44 (by decide) ?_
        refine g_icmp_ne C 52 dX5_addRule_46 (by decide) (fun c_17 => ?_) (fun c_17 => ?_)
        · replace hw := hw.2 c_17
          refine g_aload_n C 0 dX5_addRule_52 rfl rfl ?_
          refine g_callVv C (c_X5_edit l G hO hwin hw) kX5_edit tw_729 (Rv.of C (C.win (by decide) (by decide)) rfl (ci := 5) rfl) rfl rfl ⟨Nat.le_of_ble_eq_true rfl, Nat.le_of_ble_eq_true rfl⟩ (As := []) (rest := []) rfl rfl (Nat.le_of_ble_eq_true rfl) dX5_addRule_53 ⟨Nat.le_of_ble_eq_true rfl, Nat.le_of_ble_eq_true rfl⟩ (fun s_15 hw => ?_)
          refine g_aload_n C 0 dX5_addRule_56 rfl rfl ?_
          refine g_get C inX5 (C.win (by decide) (by decide)) rfl rfl 2 (by decide) tw_625 rfl dX5_addRule_57 ?_
          refine g_bipush C (42 : Int32) dX5_addRule_60 (by decide) ?_
          refine g_iload_n C 1 dX5_addRule_62 rfl rfl ?_
          refine g_imul C dX5_addRule_63 ?_
          refine g_iald C (C.win (by decide) (by decide)) rfl hw.1 dX5_addRule_64 ?_
          replace hw := hw.2
          refine g_topi (fun x4_16 ex4_16 => ?_)
          replace hw := hw x4_16 ex4_16
          refine g_istore C dX5_addRule_65 (by decide) (lv' := [(4, .int x4_16), (0, .ref (gh G 17)), (1, .int x1), (2, .int x2), (3, .int x3)]) rfl ?_
          rw [hP67] at hw
          exact g_perm [1, 2, 3, 4, 0] rfl (hw)
        · replace hw := hw.1 c_17
          refine g_bipush C (-2 : Int32) dX5_addRule_49 (by decide) ?_
          exact g_iret C hr hlk hw dX5_addRule_51
      · replace hw := hw.1 c_18
        refine g_iconst C (-1 : Int32) dX5_addRule_33 (by decide) ?_
        exact g_iret C hr hlk hw dX5_addRule_34

set_option maxHeartbeats 4000000 in
set_option maxRecDepth 100000 in
theorem c_X5_removes (l : Launch) (G : Gp) (hO : gOK G) (hwin : ∀ k, 17 ≤ k → k < 25 → k ∈ gks G) {x1 : Int32} {x2 : Int32}  {st : St} {Q : St → Prop} (hw : wp_X5_removes x1 x2 st Q) : MV l G yX5_removes cX5_removes 4 { frames := 1, cells := 0, slots := 0, locals := 25 } [.ref (gh G 17), .int x1, .int x2] st Q := by
  refine MV.of (own := RX5) (lo := 17) (hi := 25) hO hwin (by decide) rfl (Nat.le_of_ble_eq_true rfl) (fun p e s m args below meth c C hr hlk => ?_)
  refine g_lv (lv' := [(0, .ref (gh G 17)), (1, .int x1), (2, .int x2)]) rfl ?_
  unfold wp_X5_removes at hw
  obtain ⟨P15, hP15⟩ : ∃ P : Int32 → St → Prop, P = fun x3 st => WG p l e ({ frames := 1, cells := 0, slots := 0, locals := 25 } : Room) s m args below meth c 0 0 (MQ below (va_Qv Q (gB G) (gA G)) args s 0 0 (gA G)) G 4 15 [(0, .ref (gh G 17)), (1, .int x1), (2, .int x2), (3, .int x3)] [] st := ⟨_, rfl⟩
  replace hw := hw P15
  replace hw := hw (by
    intro x3 st hw
    rw [hP15]
    refine g_iload_n C 3 dX5_removes_15 rfl rfl ?_
    refine g_aload_n C 0 dX5_removes_16 rfl rfl ?_
    refine g_get C inX5 (C.win (by decide) (by decide)) rfl rfl 2 (by decide) tw_625 rfl dX5_removes_17 ?_
    refine g_bipush C (42 : Int32) dX5_removes_20 (by decide) ?_
    refine g_iload_n C 1 dX5_removes_22 rfl rfl ?_
    refine g_imul C dX5_removes_23 ?_
    refine g_iald C (C.win (by decide) (by decide)) rfl hw.1 dX5_removes_24 ?_
    replace hw := hw.2
    refine g_icmp_ge C 43 dX5_removes_25 (by decide) (fun c_3 => ?_) (fun c_3 => ?_)
    · replace hw := hw.1 c_3
      exact g_vret C hr hlk hw dX5_removes_43
    · replace hw := hw.2 c_3
      refine g_aload_n C 0 dX5_removes_28 rfl rfl ?_
      refine g_iload_n C 1 dX5_removes_29 rfl rfl ?_
      refine g_iload_n C 3 dX5_removes_30 rfl rfl ?_
      refine g_iconst C (1 : Int32) dX5_removes_31 (by decide) ?_
      refine g_iadd C dX5_removes_32 ?_
      refine g_iload_n C 3 dX5_removes_33 rfl rfl ?_
      refine g_callVv C (c_X5_copies l G hO hwin hw) kX5_copies tw_733 (Rv.of C (C.win (by decide) (by decide)) rfl (ci := 5) rfl) rfl rfl ⟨Nat.le_of_ble_eq_true rfl, Nat.le_of_ble_eq_true rfl⟩ (As := [.int x1, .int (x3 + (1 : Int32)), .int x3]) (rest := []) rfl rfl (Nat.le_of_ble_eq_true rfl) dX5_removes_34 ⟨Nat.le_of_ble_eq_true rfl, Nat.le_of_ble_eq_true rfl⟩ (fun s_1 hw => ?_)
      obtain ⟨x3_2, ex3_2⟩ : ∃ z : Int32, z = x3 + (1 : Int32) := ⟨_, rfl⟩
      replace hw := hw x3_2 ex3_2
      refine g_iinc C x3_2 3 dX5_removes_37 rfl ex3_2.symm (by decide) (lv' := [(3, .int x3_2), (0, .ref (gh G 17)), (1, .int x1), (2, .int x2)]) rfl ?_
      refine g_goto C 15 dX5_removes_40 (by decide) ?_
      rw [hP15] at hw
      exact g_perm [1, 2, 3, 0] rfl (hw))
  refine g_aload_n C 0 dX5_removes_0 rfl rfl ?_
  refine g_get C inX5 (C.win (by decide) (by decide)) rfl rfl 2 (by decide) tw_625 rfl dX5_removes_1 ?_
  refine g_bipush C (42 : Int32) dX5_removes_4 (by decide) ?_
  refine g_iload_n C 1 dX5_removes_6 rfl rfl ?_
  refine g_imul C dX5_removes_7 ?_
  refine g_dup2 C dX5_removes_8 rfl rfl ?_
  refine g_iald C (C.win (by decide) (by decide)) rfl hw.1 dX5_removes_9 ?_
  replace hw := hw.2
  refine g_iconst C (1 : Int32) dX5_removes_10 (by decide) ?_
  refine g_isub C dX5_removes_11 ?_
  refine g_iast C (C.win (by decide) (by decide)) (fun _ => rfl) hw.1 dX5_removes_12 ?_
  replace hw := hw.2
  refine g_iload_n C 2 dX5_removes_13 rfl rfl ?_
  refine g_istore_n C dX5_removes_14 rfl (by decide) (lv' := [(3, .int x2), (0, .ref (gh G 17)), (1, .int x1), (2, .int x2)]) rfl ?_
  rw [hP15] at hw
  exact g_perm [1, 2, 3, 0] rfl (hw)

set_option maxHeartbeats 4000000 in
set_option maxRecDepth 100000 in
theorem c_X5_removeRule (l : Launch) (G : Gp) (hO : gOK G) (hwin : ∀ k, 17 ≤ k → k < 25 → k ∈ gks G) {x1 : Int32} {x2 : Int32}  {st : St} {Q : Int32 → St → Prop} (hw : wp_X5_removeRule x1 x2 st Q) : MI l G yX5_removeRule cX5_removeRule 3 (some .int) { frames := 3, cells := 0, slots := 0, locals := 64 } [.ref (gh G 17), .int x1, .int x2] st Q := by
  refine MI.of (own := RX5) (lo := 17) (hi := 25) hO hwin (by decide) rfl (Nat.le_of_ble_eq_true rfl) (fun p e s m args below meth c C hr hlk => ?_)
  refine g_lv (lv' := [(0, .ref (gh G 17)), (1, .int x1), (2, .int x2)]) rfl ?_
  unfold wp_X5_removeRule at hw
  refine g_aload_n C 0 dX5_removeRule_0 rfl rfl ?_
  refine g_iload_n C 1 dX5_removeRule_1 rfl rfl ?_
  refine g_iload_n C 2 dX5_removeRule_2 rfl rfl ?_
  refine g_callVi C (c_X5_isRule l G hO hwin hw) kX5_isRule tw_741 (Rv.of C (C.win (by decide) (by decide)) rfl (ci := 5) rfl) rfl rfl ⟨Nat.le_of_ble_eq_true rfl, Nat.le_of_ble_eq_true rfl⟩ (As := [.int x1, .int x2]) (rest := []) rfl rfl (Nat.le_of_ble_eq_true rfl) dX5_removeRule_3 ⟨Nat.le_of_ble_eq_true rfl, Nat.le_of_ble_eq_true rfl⟩ (fun r_2 s_1 hw => ?_)
  refine g_if_ne C 11 dX5_removeRule_6 (by decide) (fun c_5 => ?_) (fun c_5 => ?_)
  · replace hw := hw.2 c_5
    refine g_aload_n C 0 dX5_removeRule_11 rfl rfl ?_
    refine g_callVv C (c_X5_edit l G hO hwin hw) kX5_edit tw_729 (Rv.of C (C.win (by decide) (by decide)) rfl (ci := 5) rfl) rfl rfl ⟨Nat.le_of_ble_eq_true rfl, Nat.le_of_ble_eq_true rfl⟩ (As := []) (rest := []) rfl rfl (Nat.le_of_ble_eq_true rfl) dX5_removeRule_12 ⟨Nat.le_of_ble_eq_true rfl, Nat.le_of_ble_eq_true rfl⟩ (fun s_3 hw => ?_)
    refine g_aload_n C 0 dX5_removeRule_15 rfl rfl ?_
    refine g_iload_n C 1 dX5_removeRule_16 rfl rfl ?_
    refine g_iload_n C 2 dX5_removeRule_17 rfl rfl ?_
    refine g_callVv C (c_X5_removes l G hO hwin hw) kX5_removes tw_745 (Rv.of C (C.win (by decide) (by decide)) rfl (ci := 5) rfl) rfl rfl ⟨Nat.le_of_ble_eq_true rfl, Nat.le_of_ble_eq_true rfl⟩ (As := [.int x1, .int x2]) (rest := []) rfl rfl (Nat.le_of_ble_eq_true rfl) dX5_removeRule_18 ⟨Nat.le_of_ble_eq_true rfl, Nat.le_of_ble_eq_true rfl⟩ (fun s_4 hw => ?_)
    refine g_aload_n C 0 dX5_removeRule_21 rfl rfl ?_
    refine g_get C inX5 (C.win (by decide) (by decide)) rfl rfl 2 (by decide) tw_625 rfl dX5_removeRule_22 ?_
    refine g_bipush C (42 : Int32) dX5_removeRule_25 (by decide) ?_
    refine g_iload_n C 1 dX5_removeRule_27 rfl rfl ?_
    refine g_imul C dX5_removeRule_28 ?_
    refine g_iald C (C.win (by decide) (by decide)) rfl hw.1 dX5_removeRule_29 ?_
    replace hw := hw.2
    exact g_iret C hr hlk hw dX5_removeRule_30
  · replace hw := hw.1 c_5
    refine g_iconst C (-1 : Int32) dX5_removeRule_9 (by decide) ?_
    exact g_iret C hr hlk hw dX5_removeRule_10

set_option maxHeartbeats 4000000 in
set_option maxRecDepth 100000 in
theorem c_X5_moveRule (l : Launch) (G : Gp) (hO : gOK G) (hwin : ∀ k, 17 ≤ k → k < 25 → k ∈ gks G) {x1 : Int32} {x2 : Int32} {x3 : Int32}  {st : St} {Q : Int32 → St → Prop} (hw : wp_X5_moveRule x1 x2 x3 st Q) : MI l G yX5_moveRule cX5_moveRule 7 (some .int) { frames := 3, cells := 0, slots := 0, locals := 64 } [.ref (gh G 17), .int x1, .int x2, .int x3] st Q := by
  refine MI.of (own := RX5) (lo := 17) (hi := 25) hO hwin (by decide) rfl (Nat.le_of_ble_eq_true rfl) (fun p e s m args below meth c C hr hlk => ?_)
  refine g_lv (lv' := [(0, .ref (gh G 17)), (1, .int x1), (2, .int x2), (3, .int x3)]) rfl ?_
  unfold wp_X5_moveRule at hw
  obtain ⟨P43, hP43⟩ : ∃ P : Int32 → Int32 → St → Prop, P = fun x4 x5 st => WG p l e ({ frames := 3, cells := 0, slots := 0, locals := 64 } : Room) s m args below meth c 0 0 (MQ below (va_Qi Q (gB G) (gA G)) args s 0 0 (gA G)) G 7 43 [(0, .ref (gh G 17)), (1, .int x1), (2, .int x2), (3, .int x3), (4, .int x4), (5, .int x5)] [] st := ⟨_, rfl⟩
  obtain ⟨P91, hP91⟩ : ∃ P : Int32 → Int32 → Int32 → St → Prop, P = fun x4 x5 x6 st => WG p l e ({ frames := 3, cells := 0, slots := 0, locals := 64 } : Room) s m args below meth c 0 0 (MQ below (va_Qi Q (gB G) (gA G)) args s 0 0 (gA G)) G 7 91 [(0, .ref (gh G 17)), (1, .int x1), (2, .int x2), (3, .int x3), (4, .int x4), (5, .int x5), (6, .int x6)] [] st := ⟨_, rfl⟩
  obtain ⟨P122, hP122⟩ : ∃ P : Int32 → Int32 → St → Prop, P = fun x4 x6 st => WG p l e ({ frames := 3, cells := 0, slots := 0, locals := 64 } : Room) s m args below meth c 0 0 (MQ below (va_Qi Q (gB G) (gA G)) args s 0 0 (gA G)) G 7 122 [(0, .ref (gh G 17)), (1, .int x1), (2, .int x2), (3, .int x3), (4, .int x4), (6, .int x6)] [] st := ⟨_, rfl⟩
  replace hw := hw P43 P91 P122
  replace hw := hw (by
    intro x4 x5 st hw
    rw [hP43]
    refine g_iload C 5 dX5_moveRule_43 rfl ?_
    refine g_iconst C (5 : Int32) dX5_moveRule_45 (by decide) ?_
    refine g_icmp_ge C 76 dX5_moveRule_46 (by decide) (fun c_3 => ?_) (fun c_3 => ?_)
    · replace hw := hw.1 c_3
      refine g_iload_n C 2 dX5_moveRule_76 rfl rfl ?_
      refine g_iload_n C 3 dX5_moveRule_77 rfl rfl ?_
      refine g_icmp_ge C 85 dX5_moveRule_78 (by decide) (fun c_1 => ?_) (fun c_1 => ?_)
      · replace hw := hw.1 c_1
        refine g_iconst C (-1 : Int32) dX5_moveRule_85 (by decide) ?_
        refine g_istore C dX5_moveRule_86 (by decide) (lv' := [(5, .int (-1 : Int32)), (0, .ref (gh G 17)), (1, .int x1), (2, .int x2), (3, .int x3), (4, .int x4)]) rfl ?_
        refine g_iload_n C 3 dX5_moveRule_88 rfl rfl ?_
        refine g_istore C dX5_moveRule_89 (by decide) (lv' := [(6, .int x2), (5, .int (-1 : Int32)), (0, .ref (gh G 17)), (1, .int x1), (2, .int x2), (3, .int x3), (4, .int x4)]) rfl ?_
        rw [hP91] at hw
        exact g_perm [2, 3, 4, 5, 6, 1, 0] rfl (hw)
      · replace hw := hw.2 c_1
        refine g_iconst C (1 : Int32) dX5_moveRule_81 (by decide) ?_
        refine g_goto C 86 dX5_moveRule_82 (by decide) ?_
        refine g_istore C dX5_moveRule_86 (by decide) (lv' := [(5, .int (1 : Int32)), (0, .ref (gh G 17)), (1, .int x1), (2, .int x2), (3, .int x3), (4, .int x4)]) rfl ?_
        refine g_iload_n C 3 dX5_moveRule_88 rfl rfl ?_
        refine g_istore C dX5_moveRule_89 (by decide) (lv' := [(6, .int x2), (5, .int (1 : Int32)), (0, .ref (gh G 17)), (1, .int x1), (2, .int x2), (3, .int x3), (4, .int x4)]) rfl ?_
        rw [hP91] at hw
        exact g_perm [2, 3, 4, 5, 6, 1, 0] rfl (hw)
    · replace hw := hw.2 c_3
      refine g_aload_n C 0 dX5_moveRule_49 rfl rfl ?_
      refine g_get C inX5 (C.win (by decide) (by decide)) rfl rfl 10 (by decide) tw_633 rfl dX5_moveRule_50 ?_
      refine g_iload C 5 dX5_moveRule_53 rfl ?_
      refine g_aload_n C 0 dX5_moveRule_55 rfl rfl ?_
      refine g_get C inX5 (C.win (by decide) (by decide)) rfl rfl 2 (by decide) tw_625 rfl dX5_moveRule_56 ?_
      refine g_iload C 4 dX5_moveRule_59 rfl ?_
      refine g_iconst C (5 : Int32) dX5_moveRule_61 (by decide) ?_
      refine g_iload_n C 2 dX5_moveRule_62 rfl rfl ?_
      refine g_imul C dX5_moveRule_63 ?_
      refine g_iadd C dX5_moveRule_64 ?_
      refine g_iload C 5 dX5_moveRule_65 rfl ?_
      refine g_iadd C dX5_moveRule_67 ?_
      refine g_iald C (C.win (by decide) (by decide)) rfl hw.1 dX5_moveRule_68 ?_
      replace hw := hw.2
      refine g_iast C (C.win (by decide) (by decide)) (fun _ => rfl) hw.1 dX5_moveRule_69 ?_
      replace hw := hw.2
      obtain ⟨x5_2, ex5_2⟩ : ∃ z : Int32, z = x5 + (1 : Int32) := ⟨_, rfl⟩
      replace hw := hw x5_2 ex5_2
      refine g_iinc C x5_2 5 dX5_moveRule_70 rfl ex5_2.symm (by decide) (lv' := [(5, .int x5_2), (0, .ref (gh G 17)), (1, .int x1), (2, .int x2), (3, .int x3), (4, .int x4)]) rfl ?_
      refine g_goto C 43 dX5_moveRule_73 (by decide) ?_
      rw [hP43] at hw
      exact g_perm [1, 2, 3, 4, 5, 0] rfl (hw))
  replace hw := hw (by
    intro x4 x5 x6 st hw
    rw [hP91]
    refine g_iload C 6 dX5_moveRule_91 rfl ?_
    refine g_iload_n C 3 dX5_moveRule_93 rfl rfl ?_
    refine g_icmp_eq C 119 dX5_moveRule_94 (by decide) (fun c_6 => ?_) (fun c_6 => ?_)
    · replace hw := hw.1 c_6
      refine g_iconst C (0 : Int32) dX5_moveRule_119 (by decide) ?_
      refine g_istore C dX5_moveRule_120 (by decide) (lv' := [(6, .int (0 : Int32)), (0, .ref (gh G 17)), (1, .int x1), (2, .int x2), (3, .int x3), (4, .int x4), (5, .int x5)]) rfl ?_
      rw [hP122] at hw
      exact g_perm [1, 2, 3, 4, 5, 0] rfl (hw)
    · replace hw := hw.2 c_6
      refine g_aload_n C 0 dX5_moveRule_97 rfl rfl ?_
      refine g_iload_n C 1 dX5_moveRule_98 rfl rfl ?_
      refine g_iload C 6 dX5_moveRule_99 rfl ?_
      refine g_iload C 5 dX5_moveRule_101 rfl ?_
      refine g_iadd C dX5_moveRule_103 ?_
      refine g_iload C 6 dX5_moveRule_104 rfl ?_
      refine g_callVv C (c_X5_copies l G hO hwin hw) kX5_copies tw_733 (Rv.of C (C.win (by decide) (by decide)) rfl (ci := 5) rfl) rfl rfl ⟨Nat.le_of_ble_eq_true rfl, Nat.le_of_ble_eq_true rfl⟩ (As := [.int x1, .int (x6 + x5), .int x6]) (rest := []) rfl rfl (Nat.le_of_ble_eq_true rfl) dX5_moveRule_106 ⟨Nat.le_of_ble_eq_true rfl, Nat.le_of_ble_eq_true rfl⟩ (fun s_4 hw => ?_)
      refine g_iload C 6 dX5_moveRule_109 rfl ?_
      refine g_iload C 5 dX5_moveRule_111 rfl ?_
      refine g_iadd C dX5_moveRule_113 ?_
      refine g_topi (fun x6_5 ex6_5 => ?_)
      replace hw := hw x6_5 ex6_5
      refine g_istore C dX5_moveRule_114 (by decide) (lv' := [(6, .int x6_5), (0, .ref (gh G 17)), (1, .int x1), (2, .int x2), (3, .int x3), (4, .int x4), (5, .int x5)]) rfl ?_
      refine g_goto C 91 dX5_moveRule_116 (by decide) ?_
      rw [hP91] at hw
      exact g_perm [1, 2, 3, 4, 5, 6, 0] rfl (hw))
  replace hw := hw (by
    intro x4 x6 st hw
    rw [hP122]
    refine g_iload C 5 dX5_moveRule_122 rfl ?_
    refine g_iconst C (5 : Int32) dX5_moveRule_124 (by decide) ?_
    refine g_icmp_ge C 155 dX5_moveRule_125 (by decide) (fun c_8 => ?_) (fun c_8 => ?_)
    · replace hw := hw.1 c_8
      refine g_aload_n C 0 dX5_moveRule_155 rfl rfl ?_
      refine g_get C inX5 (C.win (by decide) (by decide)) rfl rfl 10 (by decide) tw_633 rfl dX5_moveRule_156 ?_
      refine g_iconst C (0 : Int32) dX5_moveRule_159 (by decide) ?_
      refine g_iald C (C.win (by decide) (by decide)) rfl hw.1 dX5_moveRule_160 ?_
      replace hw := hw.2
      exact g_iret C hr hlk hw dX5_moveRule_161
    · replace hw := hw.2 c_8
      refine g_aload_n C 0 dX5_moveRule_128 rfl rfl ?_
      refine g_get C inX5 (C.win (by decide) (by decide)) rfl rfl 2 (by decide) tw_625 rfl dX5_moveRule_129 ?_
      refine g_iload C 4 dX5_moveRule_132 rfl ?_
      refine g_iconst C (5 : Int32) dX5_moveRule_134 (by decide) ?_
      refine g_iload_n C 3 dX5_moveRule_135 rfl rfl ?_
      refine g_imul C dX5_moveRule_136 ?_
      refine g_iadd C dX5_moveRule_137 ?_
      refine g_iload C 5 dX5_moveRule_138 rfl ?_
      refine g_iadd C dX5_moveRule_140 ?_
      refine g_aload_n C 0 dX5_moveRule_141 rfl rfl ?_
      refine g_get C inX5 (C.win (by decide) (by decide)) rfl rfl 10 (by decide) tw_633 rfl dX5_moveRule_142 ?_
      refine g_iload C 5 dX5_moveRule_145 rfl ?_
      refine g_iald C (C.win (by decide) (by decide)) rfl hw.1 dX5_moveRule_147 ?_
      replace hw := hw.2
      refine g_iast C (C.win (by decide) (by decide)) (fun _ => rfl) hw.1 dX5_moveRule_148 ?_
      replace hw := hw.2
      obtain ⟨x6_7, ex6_7⟩ : ∃ z : Int32, z = x6 + (1 : Int32) := ⟨_, rfl⟩
      replace hw := hw x6_7 ex6_7
      refine g_iinc C x6_7 5 dX5_moveRule_149 rfl ex6_7.symm (by decide) (lv' := [(6, .int x6_7), (0, .ref (gh G 17)), (1, .int x1), (2, .int x2), (3, .int x3), (4, .int x4)]) rfl ?_
      refine g_goto C 122 dX5_moveRule_152 (by decide) ?_
      rw [hP122] at hw
      exact g_perm [1, 2, 3, 4, 5, 0] rfl (hw))
  refine g_aload_n C 0 dX5_moveRule_0 rfl rfl ?_
  refine g_iload_n C 1 dX5_moveRule_1 rfl rfl ?_
  refine g_iload_n C 2 dX5_moveRule_2 rfl rfl ?_
  refine g_callVi C (c_X5_isRule l G hO hwin hw) kX5_isRule tw_741 (Rv.of C (C.win (by decide) (by decide)) rfl (ci := 5) rfl) rfl rfl ⟨Nat.le_of_ble_eq_true rfl, Nat.le_of_ble_eq_true rfl⟩ (As := [.int x1, .int x2]) (rest := []) rfl rfl (Nat.le_of_ble_eq_true rfl) dX5_moveRule_3 ⟨Nat.le_of_ble_eq_true rfl, Nat.le_of_ble_eq_true rfl⟩ (fun r_10 s_9 hw => ?_)
  refine g_if_eq C 18 dX5_moveRule_6 (by decide) (fun c_17 => ?_) (fun c_17 => ?_)
  · replace hw := hw.1 c_17
    refine g_iconst C (-1 : Int32) dX5_moveRule_18 (by decide) ?_
    exact g_iret C hr hlk hw dX5_moveRule_19
  · replace hw := hw.2 c_17
    refine g_aload_n C 0 dX5_moveRule_9 rfl rfl ?_
    refine g_iload_n C 1 dX5_moveRule_10 rfl rfl ?_
    refine g_iload_n C 3 dX5_moveRule_11 rfl rfl ?_
    refine g_callVi C (c_X5_isRule l G hO hwin hw) kX5_isRule tw_741 (Rv.of C (C.win (by decide) (by decide)) rfl (ci := 5) rfl) rfl rfl ⟨Nat.le_of_ble_eq_true rfl, Nat.le_of_ble_eq_true rfl⟩ (As := [.int x1, .int x3]) (rest := []) rfl rfl (Nat.le_of_ble_eq_true rfl) dX5_moveRule_12 ⟨Nat.le_of_ble_eq_true rfl, Nat.le_of_ble_eq_true rfl⟩ (fun r_12 s_11 hw => ?_)
    refine g_if_ne C 20 dX5_moveRule_15 (by decide) (fun c_16 => ?_) (fun c_16 => ?_)
    · replace hw := hw.2 c_16
      refine g_iload_n C 2 dX5_moveRule_20 rfl rfl ?_
      refine g_iload_n C 3 dX5_moveRule_21 rfl rfl ?_
      refine g_icmp_ne C 28 dX5_moveRule_22 (by decide) (fun c_15 => ?_) (fun c_15 => ?_)
      · replace hw := hw.2 c_15
        refine g_aload_n C 0 dX5_moveRule_28 rfl rfl ?_
        refine g_callVv C (c_X5_edit l G hO hwin hw) kX5_edit tw_729 (Rv.of C (C.win (by decide) (by decide)) rfl (ci := 5) rfl) rfl rfl ⟨Nat.le_of_ble_eq_true rfl, Nat.le_of_ble_eq_true rfl⟩ (As := []) (rest := []) rfl rfl (Nat.le_of_ble_eq_true rfl) dX5_moveRule_29 ⟨Nat.le_of_ble_eq_true rfl, Nat.le_of_ble_eq_true rfl⟩ (fun s_13 hw => ?_)
        refine g_bipush C (42 : Int32) dX5_moveRule_32 (by decide) ?_
        refine g_iload_n C 1 dX5_moveRule_34 rfl rfl ?_
        refine g_imul C dX5_moveRule_35 ?_
        refine g_iconst C (2 : Int32) dX5_moveRule_36 (by decide) ?_
        refine g_iadd C dX5_moveRule_37 ?_
        refine g_topi (fun x4_14 ex4_14 => ?_)
        replace hw := hw x4_14 ex4_14
        refine g_istore C dX5_moveRule_38 (by decide) (lv' := [(4, .int x4_14), (0, .ref (gh G 17)), (1, .int x1), (2, .int x2), (3, .int x3)]) rfl ?_
        refine g_iconst C (0 : Int32) dX5_moveRule_40 (by decide) ?_
        refine g_istore C dX5_moveRule_41 (by decide) (lv' := [(5, .int (0 : Int32)), (4, .int x4_14), (0, .ref (gh G 17)), (1, .int x1), (2, .int x2), (3, .int x3)]) rfl ?_
        rw [hP43] at hw
        exact g_perm [2, 3, 4, 5, 1, 0] rfl (hw)
      · replace hw := hw.1 c_15
        refine g_bipush C (-3 : Int32) dX5_moveRule_25 (by decide) ?_
        exact g_iret C hr hlk hw dX5_moveRule_27
    · replace hw := hw.1 c_16
      refine g_iconst C (-1 : Int32) dX5_moveRule_18 (by decide) ?_
      exact g_iret C hr hlk hw dX5_moveRule_19

set_option maxHeartbeats 4000000 in
set_option maxRecDepth 100000 in
theorem c_X5_setAlgorithm (l : Launch) (G : Gp) (hO : gOK G) (hwin : ∀ k, 17 ≤ k → k < 25 → k ∈ gks G) {x1 : Int32} {x2 : Int32}  {st : St} {Q : Int32 → St → Prop} (hw : wp_X5_setAlgorithm x1 x2 st Q) : MI l G yX5_setAlgorithm cX5_setAlgorithm 4 (some .int) { frames := 2, cells := 0, slots := 0, locals := 42 } [.ref (gh G 17), .int x1, .int x2] st Q := by
  refine MI.of (own := RX5) (lo := 17) (hi := 25) hO hwin (by decide) rfl (Nat.le_of_ble_eq_true rfl) (fun p e s m args below meth c C hr hlk => ?_)
  refine g_lv (lv' := [(0, .ref (gh G 17)), (1, .int x1), (2, .int x2)]) rfl ?_
  unfold wp_X5_setAlgorithm at hw
  refine g_iload_n C 1 dX5_setAlgorithm_0 rfl rfl ?_
  refine g_callSi C (c_X5_isPolicy l G hO hwin hw) kX5_isPolicy tw_726 rfl rfl ⟨Nat.le_of_ble_eq_true rfl, Nat.le_of_ble_eq_true rfl⟩ (As := [.int x1]) (rest := []) rfl rfl (Nat.le_of_ble_eq_true rfl) dX5_setAlgorithm_1 ⟨Nat.le_of_ble_eq_true rfl, Nat.le_of_ble_eq_true rfl⟩ (fun r_2 s_1 hw => ?_)
  refine g_if_eq C 16 dX5_setAlgorithm_4 (by decide) (fun c_9 => ?_) (fun c_9 => ?_)
  · replace hw := hw.1 c_9
    refine g_iconst C (-1 : Int32) dX5_setAlgorithm_16 (by decide) ?_
    exact g_iret C hr hlk hw dX5_setAlgorithm_17
  · replace hw := hw.2 c_9
    refine g_iload_n C 2 dX5_setAlgorithm_7 rfl rfl ?_
    refine g_iconst C (0 : Int32) dX5_setAlgorithm_8 (by decide) ?_
    refine g_iconst C (4 : Int32) dX5_setAlgorithm_9 (by decide) ?_
    refine g_callSi C (c_X5_in l G hO hwin hw) kX5_in tw_661 rfl rfl ⟨Nat.le_of_ble_eq_true rfl, Nat.le_of_ble_eq_true rfl⟩ (As := [.int x2, .int (0 : Int32), .int (4 : Int32)]) (rest := []) rfl rfl (Nat.le_of_ble_eq_true rfl) dX5_setAlgorithm_10 ⟨Nat.le_of_ble_eq_true rfl, Nat.le_of_ble_eq_true rfl⟩ (fun r_4 s_3 hw => ?_)
    refine g_if_ne C 18 dX5_setAlgorithm_13 (by decide) (fun c_8 => ?_) (fun c_8 => ?_)
    · replace hw := hw.2 c_8
      refine g_aload_n C 0 dX5_setAlgorithm_18 rfl rfl ?_
      refine g_get C inX5 (C.win (by decide) (by decide)) rfl rfl 2 (by decide) tw_625 rfl dX5_setAlgorithm_19 ?_
      refine g_bipush C (42 : Int32) dX5_setAlgorithm_22 (by decide) ?_
      refine g_iload_n C 1 dX5_setAlgorithm_24 rfl rfl ?_
      refine g_imul C dX5_setAlgorithm_25 ?_
      refine g_iconst C (1 : Int32) dX5_setAlgorithm_26 (by decide) ?_
      refine g_iadd C dX5_setAlgorithm_27 ?_
      refine g_iald C (C.win (by decide) (by decide)) rfl hw.1 dX5_setAlgorithm_28 ?_
      replace hw := hw.2
      refine g_topi (fun x3_5 ex3_5 => ?_)
      replace hw := hw x3_5 ex3_5
      refine g_istore_n C dX5_setAlgorithm_29 rfl (by decide) (lv' := [(3, .int x3_5), (0, .ref (gh G 17)), (1, .int x1), (2, .int x2)]) rfl ?_
      refine g_iload_n C 0 dX5_setAlgorithm_30 rfl rfl ?_
      refine g_iload_n C 3 dX5_setAlgorithm_31 rfl rfl ?_
      refine g_icmp_ne C 38 dX5_setAlgorithm_32 (by decide) (fun c_7 => ?_) (fun c_7 => ?_)
      · replace hw := hw.2 c_7
        refine g_aload_n C 1 dX5_setAlgorithm_38 rfl rfl ?_
        refine g_callVv C (c_X5_edit l G hO hwin hw) kX5_edit tw_729 (Rv.of C (C.win (by decide) (by decide)) rfl (ci := 5) rfl) rfl rfl ⟨Nat.le_of_ble_eq_true rfl, Nat.le_of_ble_eq_true rfl⟩ (As := []) (rest := []) rfl rfl (Nat.le_of_ble_eq_true rfl) dX5_setAlgorithm_39 ⟨Nat.le_of_ble_eq_true rfl, Nat.le_of_ble_eq_true rfl⟩ (fun s_6 hw => ?_)
        refine g_aload_n C 1 dX5_setAlgorithm_42 rfl rfl ?_
        refine g_get C inX5 (C.win (by decide) (by decide)) rfl rfl 2 (by decide) tw_625 rfl dX5_setAlgorithm_43 ?_
        refine g_bipush C (42 : Int32) dX5_setAlgorithm_46 (by decide) ?_
        refine g_iload_n C 2 dX5_setAlgorithm_48 rfl rfl ?_
        refine g_imul C dX5_setAlgorithm_49 ?_
        refine g_iconst C (1 : Int32) dX5_setAlgorithm_50 (by decide) ?_
        refine g_iadd C dX5_setAlgorithm_51 ?_
        refine g_iload_n C 3 dX5_setAlgorithm_52 rfl rfl ?_
        refine g_iast C (C.win (by decide) (by decide)) (fun _ => rfl) hw.1 dX5_setAlgorithm_53 ?_
        replace hw := hw.2
        refine g_iload_n C 0 dX5_setAlgorithm_54 rfl rfl ?_
        exact g_iret C hr hlk hw dX5_setAlgorithm_55
      · replace hw := hw.1 c_7
        refine g_bipush C (-3 : Int32) dX5_setAlgorithm_35 (by decide) ?_
        exact g_iret C hr hlk hw dX5_setAlgorithm_37
    · replace hw := hw.1 c_8
      refine g_iconst C (-1 : Int32) dX5_setAlgorithm_16 (by decide) ?_
      exact g_iret C hr hlk hw dX5_setAlgorithm_17

set_option maxHeartbeats 4000000 in
set_option maxRecDepth 100000 in
theorem c_X5_setTarget (l : Launch) (G : Gp) (hO : gOK G) (hwin : ∀ k, 17 ≤ k → k < 25 → k ∈ gks G) {x1 : Int32} {x2 : Int32} {x3 : Int32} {x4 : Int32}  {st : St} {Q : Int32 → St → Prop} (hw : wp_X5_setTarget x1 x2 x3 x4 st Q) : MI l G yX5_setTarget cX5_setTarget 7 (some .int) { frames := 3, cells := 0, slots := 0, locals := 64 } [.ref (gh G 17), .int x1, .int x2, .int x3, .int x4] st Q := by
  refine MI.of (own := RX5) (lo := 17) (hi := 25) hO hwin (by decide) rfl (Nat.le_of_ble_eq_true rfl) (fun p e s m args below meth c C hr hlk => ?_)
  refine g_lv (lv' := [(0, .ref (gh G 17)), (1, .int x1), (2, .int x2), (3, .int x3), (4, .int x4)]) rfl ?_
  unfold wp_X5_setTarget at hw
  refine g_aload_n C 0 dX5_setTarget_0 rfl rfl ?_
  refine g_iload_n C 1 dX5_setTarget_1 rfl rfl ?_
  refine g_iload_n C 2 dX5_setTarget_2 rfl rfl ?_
  refine g_callVi C (c_X5_isRule l G hO hwin hw) kX5_isRule tw_741 (Rv.of C (C.win (by decide) (by decide)) rfl (ci := 5) rfl) rfl rfl ⟨Nat.le_of_ble_eq_true rfl, Nat.le_of_ble_eq_true rfl⟩ (As := [.int x1, .int x2]) (rest := []) rfl rfl (Nat.le_of_ble_eq_true rfl) dX5_setTarget_3 ⟨Nat.le_of_ble_eq_true rfl, Nat.le_of_ble_eq_true rfl⟩ (fun r_2 s_1 hw => ?_)
  refine g_if_eq C 35 dX5_setTarget_6 (by decide) (fun c_15 => ?_) (fun c_15 => ?_)
  · replace hw := hw.1 c_15
    refine g_iconst C (-1 : Int32) dX5_setTarget_35 (by decide) ?_
    exact g_iret C hr hlk hw dX5_setTarget_36
  · replace hw := hw.2 c_15
    refine g_iload_n C 3 dX5_setTarget_9 rfl rfl ?_
    refine g_iconst C (0 : Int32) dX5_setTarget_10 (by decide) ?_
    refine g_iconst C (3 : Int32) dX5_setTarget_11 (by decide) ?_
    refine g_callSi C (c_X5_in l G hO hwin hw) kX5_in tw_661 rfl rfl ⟨Nat.le_of_ble_eq_true rfl, Nat.le_of_ble_eq_true rfl⟩ (As := [.int x3, .int (0 : Int32), .int (3 : Int32)]) (rest := []) rfl rfl (Nat.le_of_ble_eq_true rfl) dX5_setTarget_12 ⟨Nat.le_of_ble_eq_true rfl, Nat.le_of_ble_eq_true rfl⟩ (fun r_4 s_3 hw => ?_)
    refine g_if_eq C 35 dX5_setTarget_15 (by decide) (fun c_14 => ?_) (fun c_14 => ?_)
    · replace hw := hw.1 c_14
      refine g_iconst C (-1 : Int32) dX5_setTarget_35 (by decide) ?_
      exact g_iret C hr hlk hw dX5_setTarget_36
    · replace hw := hw.2 c_14
      refine g_iload C 4 dX5_setTarget_18 rfl ?_
      refine g_iconst C (1 : Int32) dX5_setTarget_20 (by decide) ?_
      refine g_iconst C (1 : Int32) dX5_setTarget_21 (by decide) ?_
      refine g_iload_n C 3 dX5_setTarget_22 rfl rfl ?_
      refine g_callSi C (c_X5_valuesOf l G hO hwin hw) kX5_valuesOf tw_688 rfl rfl ⟨Nat.le_of_ble_eq_true rfl, Nat.le_of_ble_eq_true rfl⟩ (As := [.int x3]) (rest := [.int (1 : Int32), .int (1 : Int32), .int x4]) rfl rfl (Nat.le_of_ble_eq_true rfl) dX5_setTarget_23 ⟨Nat.le_of_ble_eq_true rfl, Nat.le_of_ble_eq_true rfl⟩ (fun r_6 s_5 hw => ?_)
      refine g_ishl C dX5_setTarget_26 ?_
      refine g_iconst C (1 : Int32) dX5_setTarget_27 (by decide) ?_
      refine g_isub C dX5_setTarget_28 ?_
      refine g_callSi C (c_X5_in l G hO hwin hw) kX5_in tw_661 rfl rfl ⟨Nat.le_of_ble_eq_true rfl, Nat.le_of_ble_eq_true rfl⟩ (As := [.int x4, .int (1 : Int32), .int (((1 : Int32) <<< (r_6 &&& (31 : Int32))) - (1 : Int32))]) (rest := []) rfl rfl (Nat.le_of_ble_eq_true rfl) dX5_setTarget_29 ⟨Nat.le_of_ble_eq_true rfl, Nat.le_of_ble_eq_true rfl⟩ (fun r_8 s_7 hw => ?_)
      refine g_if_ne C 37 dX5_setTarget_32 (by decide) (fun c_13 => ?_) (fun c_13 => ?_)
      · replace hw := hw.2 c_13
        refine g_bipush C (42 : Int32) dX5_setTarget_37 (by decide) ?_
        refine g_iload_n C 1 dX5_setTarget_39 rfl rfl ?_
        refine g_imul C dX5_setTarget_40 ?_
        refine g_iconst C (2 : Int32) dX5_setTarget_41 (by decide) ?_
        refine g_iadd C dX5_setTarget_42 ?_
        refine g_iconst C (5 : Int32) dX5_setTarget_43 (by decide) ?_
        refine g_iload_n C 2 dX5_setTarget_44 rfl rfl ?_
        refine g_imul C dX5_setTarget_45 ?_
        refine g_iadd C dX5_setTarget_46 ?_
        refine g_iconst C (1 : Int32) dX5_setTarget_47 (by decide) ?_
        refine g_iadd C dX5_setTarget_48 ?_
        refine g_iload_n C 3 dX5_setTarget_49 rfl rfl ?_
        refine g_iadd C dX5_setTarget_50 ?_
        refine g_topi (fun x5_9 ex5_9 => ?_)
        replace hw := hw x5_9 ex5_9
        refine g_istore C dX5_setTarget_51 (by decide) (lv' := [(5, .int x5_9), (0, .ref (gh G 17)), (1, .int x1), (2, .int x2), (3, .int x3), (4, .int x4)]) rfl ?_
        refine g_aload_n C 1 dX5_setTarget_53 rfl rfl ?_
        refine g_get C inX5 (C.win (by decide) (by decide)) rfl rfl 2 (by decide) tw_625 rfl dX5_setTarget_54 ?_
        refine g_iload C 0 dX5_setTarget_57 rfl ?_
        refine g_iald C (C.win (by decide) (by decide)) rfl hw.1 dX5_setTarget_59 ?_
        replace hw := hw.2
        refine g_topi (fun x6_10 ex6_10 => ?_)
        replace hw := hw x6_10 ex6_10
        refine g_istore C dX5_setTarget_60 (by decide) (lv' := [(6, .int x6_10), (5, .int x5_9), (0, .ref (gh G 17)), (1, .int x1), (2, .int x2), (3, .int x3), (4, .int x4)]) rfl ?_
        refine g_iload C 0 dX5_setTarget_62 rfl ?_
        refine g_iload C 6 dX5_setTarget_64 rfl ?_
        refine g_icmp_ne C 72 dX5_setTarget_66 (by decide) (fun c_12 => ?_) (fun c_12 => ?_)
        · replace hw := hw.2 c_12
          refine g_aload_n C 2 dX5_setTarget_72 rfl rfl ?_
          refine g_callVv C (c_X5_edit l G hO hwin hw) kX5_edit tw_729 (Rv.of C (C.win (by decide) (by decide)) rfl (ci := 5) rfl) rfl rfl ⟨Nat.le_of_ble_eq_true rfl, Nat.le_of_ble_eq_true rfl⟩ (As := []) (rest := []) rfl rfl (Nat.le_of_ble_eq_true rfl) dX5_setTarget_73 ⟨Nat.le_of_ble_eq_true rfl, Nat.le_of_ble_eq_true rfl⟩ (fun s_11 hw => ?_)
          refine g_aload_n C 2 dX5_setTarget_76 rfl rfl ?_
          refine g_get C inX5 (C.win (by decide) (by decide)) rfl rfl 2 (by decide) tw_625 rfl dX5_setTarget_77 ?_
          refine g_iload C 1 dX5_setTarget_80 rfl ?_
          refine g_iload C 6 dX5_setTarget_82 rfl ?_
          refine g_iast C (C.win (by decide) (by decide)) (fun _ => rfl) hw.1 dX5_setTarget_84 ?_
          replace hw := hw.2
          refine g_iload C 0 dX5_setTarget_85 rfl ?_
          exact g_iret C hr hlk hw dX5_setTarget_87
        · replace hw := hw.1 c_12
          refine g_bipush C (-3 : Int32) dX5_setTarget_69 (by decide) ?_
          exact g_iret C hr hlk hw dX5_setTarget_71
      · replace hw := hw.1 c_13
        refine g_iconst C (-1 : Int32) dX5_setTarget_35 (by decide) ?_
        exact g_iret C hr hlk hw dX5_setTarget_36

set_option maxHeartbeats 4000000 in
set_option maxRecDepth 100000 in
theorem c_X5_flipEffect (l : Launch) (G : Gp) (hO : gOK G) (hwin : ∀ k, 17 ≤ k → k < 25 → k ∈ gks G) {x1 : Int32} {x2 : Int32}  {st : St} {Q : Int32 → St → Prop} (hw : wp_X5_flipEffect x1 x2 st Q) : MI l G yX5_flipEffect cX5_flipEffect 4 (some .int) { frames := 3, cells := 0, slots := 0, locals := 64 } [.ref (gh G 17), .int x1, .int x2] st Q := by
  refine MI.of (own := RX5) (lo := 17) (hi := 25) hO hwin (by decide) rfl (Nat.le_of_ble_eq_true rfl) (fun p e s m args below meth c C hr hlk => ?_)
  refine g_lv (lv' := [(0, .ref (gh G 17)), (1, .int x1), (2, .int x2)]) rfl ?_
  unfold wp_X5_flipEffect at hw
  refine g_aload_n C 0 dX5_flipEffect_0 rfl rfl ?_
  refine g_iload_n C 1 dX5_flipEffect_1 rfl rfl ?_
  refine g_iload_n C 2 dX5_flipEffect_2 rfl rfl ?_
  refine g_callVi C (c_X5_isRule l G hO hwin hw) kX5_isRule tw_741 (Rv.of C (C.win (by decide) (by decide)) rfl (ci := 5) rfl) rfl rfl ⟨Nat.le_of_ble_eq_true rfl, Nat.le_of_ble_eq_true rfl⟩ (As := [.int x1, .int x2]) (rest := []) rfl rfl (Nat.le_of_ble_eq_true rfl) dX5_flipEffect_3 ⟨Nat.le_of_ble_eq_true rfl, Nat.le_of_ble_eq_true rfl⟩ (fun r_2 s_1 hw => ?_)
  refine g_if_ne C 11 dX5_flipEffect_6 (by decide) (fun c_5 => ?_) (fun c_5 => ?_)
  · replace hw := hw.2 c_5
    refine g_aload_n C 0 dX5_flipEffect_11 rfl rfl ?_
    refine g_callVv C (c_X5_edit l G hO hwin hw) kX5_edit tw_729 (Rv.of C (C.win (by decide) (by decide)) rfl (ci := 5) rfl) rfl rfl ⟨Nat.le_of_ble_eq_true rfl, Nat.le_of_ble_eq_true rfl⟩ (As := []) (rest := []) rfl rfl (Nat.le_of_ble_eq_true rfl) dX5_flipEffect_12 ⟨Nat.le_of_ble_eq_true rfl, Nat.le_of_ble_eq_true rfl⟩ (fun s_3 hw => ?_)
    refine g_bipush C (42 : Int32) dX5_flipEffect_15 (by decide) ?_
    refine g_iload_n C 1 dX5_flipEffect_17 rfl rfl ?_
    refine g_imul C dX5_flipEffect_18 ?_
    refine g_iconst C (2 : Int32) dX5_flipEffect_19 (by decide) ?_
    refine g_iadd C dX5_flipEffect_20 ?_
    refine g_iconst C (5 : Int32) dX5_flipEffect_21 (by decide) ?_
    refine g_iload_n C 2 dX5_flipEffect_22 rfl rfl ?_
    refine g_imul C dX5_flipEffect_23 ?_
    refine g_iadd C dX5_flipEffect_24 ?_
    refine g_topi (fun x3_4 ex3_4 => ?_)
    replace hw := hw x3_4 ex3_4
    refine g_istore_n C dX5_flipEffect_25 rfl (by decide) (lv' := [(3, .int x3_4), (0, .ref (gh G 17)), (1, .int x1), (2, .int x2)]) rfl ?_
    refine g_aload_n C 1 dX5_flipEffect_26 rfl rfl ?_
    refine g_get C inX5 (C.win (by decide) (by decide)) rfl rfl 2 (by decide) tw_625 rfl dX5_flipEffect_27 ?_
    refine g_iload_n C 0 dX5_flipEffect_30 rfl rfl ?_
    refine g_iconst C (1 : Int32) dX5_flipEffect_31 (by decide) ?_
    refine g_aload_n C 1 dX5_flipEffect_32 rfl rfl ?_
    refine g_get C inX5 (C.win (by decide) (by decide)) rfl rfl 2 (by decide) tw_625 rfl dX5_flipEffect_33 ?_
    refine g_iload_n C 0 dX5_flipEffect_36 rfl rfl ?_
    refine g_iald C (C.win (by decide) (by decide)) rfl hw.1 dX5_flipEffect_37 ?_
    replace hw := hw.2
    refine g_isub C dX5_flipEffect_38 ?_
    refine g_iast C (C.win (by decide) (by decide)) (fun _ => rfl) hw.1 dX5_flipEffect_39 ?_
    replace hw := hw.2
    refine g_aload_n C 1 dX5_flipEffect_40 rfl rfl ?_
    refine g_get C inX5 (C.win (by decide) (by decide)) rfl rfl 2 (by decide) tw_625 rfl dX5_flipEffect_41 ?_
    refine g_iload_n C 0 dX5_flipEffect_44 rfl rfl ?_
    refine g_iald C (C.win (by decide) (by decide)) rfl hw.1 dX5_flipEffect_45 ?_
    replace hw := hw.2
    exact g_iret C hr hlk hw dX5_flipEffect_46
  · replace hw := hw.1 c_5
    refine g_iconst C (-1 : Int32) dX5_flipEffect_9 (by decide) ?_
    exact g_iret C hr hlk hw dX5_flipEffect_10

set_option maxHeartbeats 4000000 in
set_option maxRecDepth 100000 in
theorem c_X5_copyOldToNew (l : Launch) (G : Gp) (hO : gOK G) (hwin : ∀ k, 17 ≤ k → k < 25 → k ∈ gks G)   {st : St} {Q : Int32 → St → Prop} (hw : wp_X5_copyOldToNew  st Q) : MI l G yX5_copyOldToNew cX5_copyOldToNew 2 (some .int) { frames := 1, cells := 0, slots := 0, locals := 21 } [.ref (gh G 17)] st Q := by
  refine MI.of (own := RX5) (lo := 17) (hi := 25) hO hwin (by decide) rfl (Nat.le_of_ble_eq_true rfl) (fun p e s m args below meth c C hr hlk => ?_)
  refine g_lv (lv' := [(0, .ref (gh G 17))]) rfl ?_
  unfold wp_X5_copyOldToNew at hw
  obtain ⟨P6, hP6⟩ : ∃ P : Int32 → St → Prop, P = fun x1 st => WG p l e ({ frames := 1, cells := 0, slots := 0, locals := 21 } : Room) s m args below meth c 0 0 (MQ below (va_Qi Q (gB G) (gA G)) args s 0 0 (gA G)) G 2 6 [(0, .ref (gh G 17)), (1, .int x1)] [] st := ⟨_, rfl⟩
  replace hw := hw P6
  replace hw := hw (by
    intro x1 st hw
    rw [hP6]
    refine g_iload_n C 1 dX5_copyOldToNew_6 rfl rfl ?_
    refine g_bipush C (42 : Int32) dX5_copyOldToNew_7 (by decide) ?_
    refine g_icmp_ge C 33 dX5_copyOldToNew_9 (by decide) (fun c_2 => ?_) (fun c_2 => ?_)
    · replace hw := hw.1 c_2
      refine g_aload_n C 0 dX5_copyOldToNew_33 rfl rfl ?_
      refine g_get C inX5 (C.win (by decide) (by decide)) rfl rfl 2 (by decide) tw_625 rfl dX5_copyOldToNew_34 ?_
      refine g_iconst C (0 : Int32) dX5_copyOldToNew_37 (by decide) ?_
      refine g_iald C (C.win (by decide) (by decide)) rfl hw.1 dX5_copyOldToNew_38 ?_
      replace hw := hw.2
      exact g_iret C hr hlk hw dX5_copyOldToNew_39
    · replace hw := hw.2 c_2
      refine g_aload_n C 0 dX5_copyOldToNew_12 rfl rfl ?_
      refine g_get C inX5 (C.win (by decide) (by decide)) rfl rfl 2 (by decide) tw_625 rfl dX5_copyOldToNew_13 ?_
      refine g_bipush C (42 : Int32) dX5_copyOldToNew_16 (by decide) ?_
      refine g_iload_n C 1 dX5_copyOldToNew_18 rfl rfl ?_
      refine g_iadd C dX5_copyOldToNew_19 ?_
      refine g_aload_n C 0 dX5_copyOldToNew_20 rfl rfl ?_
      refine g_get C inX5 (C.win (by decide) (by decide)) rfl rfl 2 (by decide) tw_625 rfl dX5_copyOldToNew_21 ?_
      refine g_iload_n C 1 dX5_copyOldToNew_24 rfl rfl ?_
      refine g_iald C (C.win (by decide) (by decide)) rfl hw.1 dX5_copyOldToNew_25 ?_
      replace hw := hw.2
      refine g_iast C (C.win (by decide) (by decide)) (fun _ => rfl) hw.1 dX5_copyOldToNew_26 ?_
      replace hw := hw.2
      obtain ⟨x1_1, ex1_1⟩ : ∃ z : Int32, z = x1 + (1 : Int32) := ⟨_, rfl⟩
      replace hw := hw x1_1 ex1_1
      refine g_iinc C x1_1 1 dX5_copyOldToNew_27 rfl ex1_1.symm (by decide) (lv' := [(1, .int x1_1), (0, .ref (gh G 17))]) rfl ?_
      refine g_goto C 6 dX5_copyOldToNew_30 (by decide) ?_
      rw [hP6] at hw
      exact g_perm [1, 0] rfl (hw))
  refine g_aload_n C 0 dX5_copyOldToNew_0 rfl rfl ?_
  refine g_callVv C (c_X5_edit l G hO hwin hw) kX5_edit tw_729 (Rv.of C (C.win (by decide) (by decide)) rfl (ci := 5) rfl) rfl rfl ⟨Nat.le_of_ble_eq_true rfl, Nat.le_of_ble_eq_true rfl⟩ (As := []) (rest := []) rfl rfl (Nat.le_of_ble_eq_true rfl) dX5_copyOldToNew_1 ⟨Nat.le_of_ble_eq_true rfl, Nat.le_of_ble_eq_true rfl⟩ (fun s_3 hw => ?_)
  refine g_iconst C (0 : Int32) dX5_copyOldToNew_4 (by decide) ?_
  refine g_istore_n C dX5_copyOldToNew_5 rfl (by decide) (lv' := [(1, .int (0 : Int32)), (0, .ref (gh G 17))]) rfl ?_
  rw [hP6] at hw
  exact g_perm [1, 0] rfl (hw)

set_option maxHeartbeats 4000000 in
set_option maxRecDepth 100000 in
theorem c_X5_ruleCount (l : Launch) (G : Gp) (hO : gOK G) (hwin : ∀ k, 17 ≤ k → k < 25 → k ∈ gks G) {x1 : Int32}  {st : St} {Q : Int32 → St → Prop} (hw : wp_X5_ruleCount x1 st Q) : MI l G yX5_ruleCount cX5_ruleCount 2 (some .int) { frames := 2, cells := 0, slots := 0, locals := 42 } [.ref (gh G 17), .int x1] st Q := by
  refine MI.of (own := RX5) (lo := 17) (hi := 25) hO hwin (by decide) rfl (Nat.le_of_ble_eq_true rfl) (fun p e s m args below meth c C hr hlk => ?_)
  refine g_lv (lv' := [(0, .ref (gh G 17)), (1, .int x1)]) rfl ?_
  unfold wp_X5_ruleCount at hw
  refine g_iload_n C 1 dX5_ruleCount_0 rfl rfl ?_
  refine g_callSi C (c_X5_isPolicy l G hO hwin hw) kX5_isPolicy tw_726 rfl rfl ⟨Nat.le_of_ble_eq_true rfl, Nat.le_of_ble_eq_true rfl⟩ (As := [.int x1]) (rest := []) rfl rfl (Nat.le_of_ble_eq_true rfl) dX5_ruleCount_1 ⟨Nat.le_of_ble_eq_true rfl, Nat.le_of_ble_eq_true rfl⟩ (fun r_2 s_1 hw => ?_)
  refine g_if_eq C 19 dX5_ruleCount_4 (by decide) (fun c_3 => ?_) (fun c_3 => ?_)
  · replace hw := hw.1 c_3
    refine g_iconst C (-1 : Int32) dX5_ruleCount_19 (by decide) ?_
    exact g_iret C hr hlk hw dX5_ruleCount_20
  · replace hw := hw.2 c_3
    refine g_aload_n C 0 dX5_ruleCount_7 rfl rfl ?_
    refine g_get C inX5 (C.win (by decide) (by decide)) rfl rfl 2 (by decide) tw_625 rfl dX5_ruleCount_8 ?_
    refine g_bipush C (42 : Int32) dX5_ruleCount_11 (by decide) ?_
    refine g_iload_n C 1 dX5_ruleCount_13 rfl rfl ?_
    refine g_imul C dX5_ruleCount_14 ?_
    refine g_iald C (C.win (by decide) (by decide)) rfl hw.1 dX5_ruleCount_15 ?_
    replace hw := hw.2
    refine g_goto C 20 dX5_ruleCount_16 (by decide) ?_
    exact g_iret C hr hlk hw dX5_ruleCount_20

set_option maxHeartbeats 4000000 in
set_option maxRecDepth 100000 in
theorem c_X5_effectOf (l : Launch) (G : Gp) (hO : gOK G) (hwin : ∀ k, 17 ≤ k → k < 25 → k ∈ gks G) {x1 : Int32} {x2 : Int32}  {st : St} {Q : Int32 → St → Prop} (hw : wp_X5_effectOf x1 x2 st Q) : MI l G yX5_effectOf cX5_effectOf 3 (some .int) { frames := 3, cells := 0, slots := 0, locals := 64 } [.ref (gh G 17), .int x1, .int x2] st Q := by
  refine MI.of (own := RX5) (lo := 17) (hi := 25) hO hwin (by decide) rfl (Nat.le_of_ble_eq_true rfl) (fun p e s m args below meth c C hr hlk => ?_)
  refine g_lv (lv' := [(0, .ref (gh G 17)), (1, .int x1), (2, .int x2)]) rfl ?_
  unfold wp_X5_effectOf at hw
  refine g_aload_n C 0 dX5_effectOf_0 rfl rfl ?_
  refine g_iload_n C 1 dX5_effectOf_1 rfl rfl ?_
  refine g_iload_n C 2 dX5_effectOf_2 rfl rfl ?_
  refine g_callVi C (c_X5_isRule l G hO hwin hw) kX5_isRule tw_741 (Rv.of C (C.win (by decide) (by decide)) rfl (ci := 5) rfl) rfl rfl ⟨Nat.le_of_ble_eq_true rfl, Nat.le_of_ble_eq_true rfl⟩ (As := [.int x1, .int x2]) (rest := []) rfl rfl (Nat.le_of_ble_eq_true rfl) dX5_effectOf_3 ⟨Nat.le_of_ble_eq_true rfl, Nat.le_of_ble_eq_true rfl⟩ (fun r_2 s_1 hw => ?_)
  refine g_if_eq C 27 dX5_effectOf_6 (by decide) (fun c_3 => ?_) (fun c_3 => ?_)
  · replace hw := hw.1 c_3
    refine g_iconst C (-1 : Int32) dX5_effectOf_27 (by decide) ?_
    exact g_iret C hr hlk hw dX5_effectOf_28
  · replace hw := hw.2 c_3
    refine g_aload_n C 0 dX5_effectOf_9 rfl rfl ?_
    refine g_get C inX5 (C.win (by decide) (by decide)) rfl rfl 2 (by decide) tw_625 rfl dX5_effectOf_10 ?_
    refine g_bipush C (42 : Int32) dX5_effectOf_13 (by decide) ?_
    refine g_iload_n C 1 dX5_effectOf_15 rfl rfl ?_
    refine g_imul C dX5_effectOf_16 ?_
    refine g_iconst C (2 : Int32) dX5_effectOf_17 (by decide) ?_
    refine g_iadd C dX5_effectOf_18 ?_
    refine g_iconst C (5 : Int32) dX5_effectOf_19 (by decide) ?_
    refine g_iload_n C 2 dX5_effectOf_20 rfl rfl ?_
    refine g_imul C dX5_effectOf_21 ?_
    refine g_iadd C dX5_effectOf_22 ?_
    refine g_iald C (C.win (by decide) (by decide)) rfl hw.1 dX5_effectOf_23 ?_
    replace hw := hw.2
    refine g_goto C 28 dX5_effectOf_24 (by decide) ?_
    exact g_iret C hr hlk hw dX5_effectOf_28

set_option maxHeartbeats 4000000 in
set_option maxRecDepth 100000 in
theorem c_X5_targetOf (l : Launch) (G : Gp) (hO : gOK G) (hwin : ∀ k, 17 ≤ k → k < 25 → k ∈ gks G) {x1 : Int32} {x2 : Int32} {x3 : Int32}  {st : St} {Q : Int32 → St → Prop} (hw : wp_X5_targetOf x1 x2 x3 st Q) : MI l G yX5_targetOf cX5_targetOf 4 (some .int) { frames := 3, cells := 0, slots := 0, locals := 64 } [.ref (gh G 17), .int x1, .int x2, .int x3] st Q := by
  refine MI.of (own := RX5) (lo := 17) (hi := 25) hO hwin (by decide) rfl (Nat.le_of_ble_eq_true rfl) (fun p e s m args below meth c C hr hlk => ?_)
  refine g_lv (lv' := [(0, .ref (gh G 17)), (1, .int x1), (2, .int x2), (3, .int x3)]) rfl ?_
  unfold wp_X5_targetOf at hw
  refine g_aload_n C 0 dX5_targetOf_0 rfl rfl ?_
  refine g_iload_n C 1 dX5_targetOf_1 rfl rfl ?_
  refine g_iload_n C 2 dX5_targetOf_2 rfl rfl ?_
  refine g_callVi C (c_X5_isRule l G hO hwin hw) kX5_isRule tw_741 (Rv.of C (C.win (by decide) (by decide)) rfl (ci := 5) rfl) rfl rfl ⟨Nat.le_of_ble_eq_true rfl, Nat.le_of_ble_eq_true rfl⟩ (As := [.int x1, .int x2]) (rest := []) rfl rfl (Nat.le_of_ble_eq_true rfl) dX5_targetOf_3 ⟨Nat.le_of_ble_eq_true rfl, Nat.le_of_ble_eq_true rfl⟩ (fun r_2 s_1 hw => ?_)
  refine g_if_eq C 40 dX5_targetOf_6 (by decide) (fun c_6 => ?_) (fun c_6 => ?_)
  · replace hw := hw.1 c_6
    refine g_iconst C (-1 : Int32) dX5_targetOf_40 (by decide) ?_
    exact g_iret C hr hlk hw dX5_targetOf_41
  · replace hw := hw.2 c_6
    refine g_iload_n C 3 dX5_targetOf_9 rfl rfl ?_
    refine g_iconst C (0 : Int32) dX5_targetOf_10 (by decide) ?_
    refine g_iconst C (3 : Int32) dX5_targetOf_11 (by decide) ?_
    refine g_callSi C (c_X5_in l G hO hwin hw) kX5_in tw_661 rfl rfl ⟨Nat.le_of_ble_eq_true rfl, Nat.le_of_ble_eq_true rfl⟩ (As := [.int x3, .int (0 : Int32), .int (3 : Int32)]) (rest := []) rfl rfl (Nat.le_of_ble_eq_true rfl) dX5_targetOf_12 ⟨Nat.le_of_ble_eq_true rfl, Nat.le_of_ble_eq_true rfl⟩ (fun r_4 s_3 hw => ?_)
    refine g_if_eq C 40 dX5_targetOf_15 (by decide) (fun c_5 => ?_) (fun c_5 => ?_)
    · replace hw := hw.1 c_5
      refine g_iconst C (-1 : Int32) dX5_targetOf_40 (by decide) ?_
      exact g_iret C hr hlk hw dX5_targetOf_41
    · replace hw := hw.2 c_5
      refine g_aload_n C 0 dX5_targetOf_18 rfl rfl ?_
      refine g_get C inX5 (C.win (by decide) (by decide)) rfl rfl 2 (by decide) tw_625 rfl dX5_targetOf_19 ?_
      refine g_bipush C (42 : Int32) dX5_targetOf_22 (by decide) ?_
      refine g_iload_n C 1 dX5_targetOf_24 rfl rfl ?_
      refine g_imul C dX5_targetOf_25 ?_
      refine g_iconst C (2 : Int32) dX5_targetOf_26 (by decide) ?_
      refine g_iadd C dX5_targetOf_27 ?_
      refine g_iconst C (5 : Int32) dX5_targetOf_28 (by decide) ?_
      refine g_iload_n C 2 dX5_targetOf_29 rfl rfl ?_
      refine g_imul C dX5_targetOf_30 ?_
      refine g_iadd C dX5_targetOf_31 ?_
      refine g_iconst C (1 : Int32) dX5_targetOf_32 (by decide) ?_
      refine g_iadd C dX5_targetOf_33 ?_
      refine g_iload_n C 3 dX5_targetOf_34 rfl rfl ?_
      refine g_iadd C dX5_targetOf_35 ?_
      refine g_iald C (C.win (by decide) (by decide)) rfl hw.1 dX5_targetOf_36 ?_
      replace hw := hw.2
      refine g_goto C 41 dX5_targetOf_37 (by decide) ?_
      exact g_iret C hr hlk hw dX5_targetOf_41

set_option maxHeartbeats 4000000 in
set_option maxRecDepth 100000 in
theorem c_X5_algorithmOf (l : Launch) (G : Gp) (hO : gOK G) (hwin : ∀ k, 17 ≤ k → k < 25 → k ∈ gks G) {x1 : Int32}  {st : St} {Q : Int32 → St → Prop} (hw : wp_X5_algorithmOf x1 st Q) : MI l G yX5_algorithmOf cX5_algorithmOf 2 (some .int) { frames := 2, cells := 0, slots := 0, locals := 42 } [.ref (gh G 17), .int x1] st Q := by
  refine MI.of (own := RX5) (lo := 17) (hi := 25) hO hwin (by decide) rfl (Nat.le_of_ble_eq_true rfl) (fun p e s m args below meth c C hr hlk => ?_)
  refine g_lv (lv' := [(0, .ref (gh G 17)), (1, .int x1)]) rfl ?_
  unfold wp_X5_algorithmOf at hw
  refine g_iload_n C 1 dX5_algorithmOf_0 rfl rfl ?_
  refine g_callSi C (c_X5_isPolicy l G hO hwin hw) kX5_isPolicy tw_726 rfl rfl ⟨Nat.le_of_ble_eq_true rfl, Nat.le_of_ble_eq_true rfl⟩ (As := [.int x1]) (rest := []) rfl rfl (Nat.le_of_ble_eq_true rfl) dX5_algorithmOf_1 ⟨Nat.le_of_ble_eq_true rfl, Nat.le_of_ble_eq_true rfl⟩ (fun r_2 s_1 hw => ?_)
  refine g_if_eq C 21 dX5_algorithmOf_4 (by decide) (fun c_3 => ?_) (fun c_3 => ?_)
  · replace hw := hw.1 c_3
    refine g_iconst C (-1 : Int32) dX5_algorithmOf_21 (by decide) ?_
    exact g_iret C hr hlk hw dX5_algorithmOf_22
  · replace hw := hw.2 c_3
    refine g_aload_n C 0 dX5_algorithmOf_7 rfl rfl ?_
    refine g_get C inX5 (C.win (by decide) (by decide)) rfl rfl 2 (by decide) tw_625 rfl dX5_algorithmOf_8 ?_
    refine g_bipush C (42 : Int32) dX5_algorithmOf_11 (by decide) ?_
    refine g_iload_n C 1 dX5_algorithmOf_13 rfl rfl ?_
    refine g_imul C dX5_algorithmOf_14 ?_
    refine g_iconst C (1 : Int32) dX5_algorithmOf_15 (by decide) ?_
    refine g_iadd C dX5_algorithmOf_16 ?_
    refine g_iald C (C.win (by decide) (by decide)) rfl hw.1 dX5_algorithmOf_17 ?_
    replace hw := hw.2
    refine g_goto C 22 dX5_algorithmOf_18 (by decide) ?_
    exact g_iret C hr hlk hw dX5_algorithmOf_22

set_option maxHeartbeats 4000000 in
set_option maxRecDepth 100000 in
theorem c_X5_partOf (l : Launch) (G : Gp) (hO : gOK G) (hwin : ∀ k, 17 ≤ k → k < 25 → k ∈ gks G) {x0 : Int32} {x1 : Int32}  {st : St} {Q : Int32 → St → Prop} (hw : wp_X5_partOf x0 x1 st Q) : MI l G yX5_partOf cX5_partOf 2 (some .int) { frames := 0, cells := 0, slots := 0, locals := 0 } [.int x0, .int x1] st Q := by
  refine MI.of (own := RX5) (lo := 17) (hi := 25) hO hwin (by decide) rfl (Nat.le_of_ble_eq_true rfl) (fun p e s m args below meth c C hr hlk => ?_)
  refine g_lv (lv' := [(0, .int x0), (1, .int x1)]) rfl ?_
  unfold wp_X5_partOf at hw
  refine g_iload_n C 1 dX5_partOf_0 rfl rfl ?_
  rcases sw3 x1 with c_1 | c_1 | c_1 | c_1
  · replace hw := hw.1 c_1
    refine g_tableIn C 28 dX5_partOf_1 (by rw [c_1]; decide) (by rw [c_1]; decide) (by rw [c_1]; rfl) (by decide) ?_
    refine g_iload_n C 0 dX5_partOf_28 rfl rfl ?_
    refine g_sipush C (128 : Int32) dX5_partOf_29 (by decide) ?_
    refine g_idiv C dX5_partOf_32 (by decide) ?_
    exact g_iret C hr hlk hw dX5_partOf_33
  · replace hw := hw.2.1 c_1
    refine g_tableIn C 34 dX5_partOf_1 (by rw [c_1]; decide) (by rw [c_1]; decide) (by rw [c_1]; rfl) (by decide) ?_
    refine g_iload_n C 0 dX5_partOf_34 rfl rfl ?_
    refine g_bipush C (32 : Int32) dX5_partOf_35 (by decide) ?_
    refine g_idiv C dX5_partOf_37 (by decide) ?_
    refine g_iconst C (4 : Int32) dX5_partOf_38 (by decide) ?_
    refine g_irem C dX5_partOf_39 (by decide) ?_
    exact g_iret C hr hlk hw dX5_partOf_40
  · replace hw := hw.2.2.1 c_1
    refine g_tableIn C 41 dX5_partOf_1 (by rw [c_1]; decide) (by rw [c_1]; decide) (by rw [c_1]; rfl) (by decide) ?_
    refine g_iload_n C 0 dX5_partOf_41 rfl rfl ?_
    refine g_iconst C (4 : Int32) dX5_partOf_42 (by decide) ?_
    refine g_idiv C dX5_partOf_43 (by decide) ?_
    refine g_bipush C (8 : Int32) dX5_partOf_44 (by decide) ?_
    refine g_irem C dX5_partOf_46 (by decide) ?_
    exact g_iret C hr hlk hw dX5_partOf_47
  · replace hw := hw.2.2.2 c_1.1
    refine g_table C 48 dX5_partOf_1 c_1.2 (by decide) ?_
    refine g_iload_n C 0 dX5_partOf_48 rfl rfl ?_
    refine g_iconst C (4 : Int32) dX5_partOf_49 (by decide) ?_
    refine g_irem C dX5_partOf_50 (by decide) ?_
    exact g_iret C hr hlk hw dX5_partOf_51

set_option maxHeartbeats 4000000 in
set_option maxRecDepth 100000 in
theorem c_X5_rulesFor (l : Launch) (G : Gp) (hO : gOK G) (hwin : ∀ k, 17 ≤ k → k < 25 → k ∈ gks G) {x1 : Int32} {x2 : Int32}  {st : St} {Q : Int32 → St → Prop} (hw : wp_X5_rulesFor x1 x2 st Q) : MI l G yX5_rulesFor cX5_rulesFor 8 (some .int) { frames := 1, cells := 0, slots := 0, locals := 21 } [.ref (gh G 17), .int x1, .int x2] st Q := by
  refine MI.of (own := RX5) (lo := 17) (hi := 25) hO hwin (by decide) rfl (Nat.le_of_ble_eq_true rfl) (fun p e s m args below meth c C hr hlk => ?_)
  refine g_lv (lv' := [(0, .ref (gh G 17)), (1, .int x1), (2, .int x2)]) rfl ?_
  unfold wp_X5_rulesFor at hw
  obtain ⟨P5, hP5⟩ : ∃ P : Int32 → Int32 → St → Prop, P = fun x3 x4 st => WG p l e ({ frames := 1, cells := 0, slots := 0, locals := 21 } : Room) s m args below meth c 0 0 (MQ below (va_Qi Q (gB G) (gA G)) args s 0 0 (gA G)) G 8 5 [(0, .ref (gh G 17)), (1, .int x1), (2, .int x2), (3, .int x3), (4, .int x4)] [] st := ⟨_, rfl⟩
  obtain ⟨P40, hP40⟩ : ∃ P : Int32 → Int32 → Int32 → Int32 → Int32 → St → Prop, P = fun x3 x4 x5 x6 x7 st => WG p l e ({ frames := 1, cells := 0, slots := 0, locals := 21 } : Room) s m args below meth c 0 0 (MQ below (va_Qi Q (gB G) (gA G)) args s 0 0 (gA G)) G 8 40 [(0, .ref (gh G 17)), (1, .int x1), (2, .int x2), (3, .int x3), (4, .int x4), (5, .int x5), (6, .int x6), (7, .int x7)] [] st := ⟨_, rfl⟩
  replace hw := hw P5 P40
  replace hw := hw (by
    intro x3 x4 st hw
    rw [hP5]
    refine g_iload C 4 dX5_rulesFor_5 rfl ?_
    refine g_aload_n C 0 dX5_rulesFor_7 rfl rfl ?_
    refine g_get C inX5 (C.win (by decide) (by decide)) rfl rfl 2 (by decide) tw_625 rfl dX5_rulesFor_8 ?_
    refine g_bipush C (42 : Int32) dX5_rulesFor_11 (by decide) ?_
    refine g_iload_n C 1 dX5_rulesFor_13 rfl rfl ?_
    refine g_imul C dX5_rulesFor_14 ?_
    refine g_iald C (C.win (by decide) (by decide)) rfl hw.1 dX5_rulesFor_15 ?_
    replace hw := hw.2
    refine g_icmp_ge C 108 dX5_rulesFor_16 (by decide) (fun c_2 => ?_) (fun c_2 => ?_)
    · replace hw := hw.1 c_2
      refine g_iload_n C 3 dX5_rulesFor_108 rfl rfl ?_
      exact g_iret C hr hlk hw dX5_rulesFor_109
    · replace hw := hw.2 c_2
      refine g_bipush C (42 : Int32) dX5_rulesFor_19 (by decide) ?_
      refine g_iload_n C 1 dX5_rulesFor_21 rfl rfl ?_
      refine g_imul C dX5_rulesFor_22 ?_
      refine g_iconst C (2 : Int32) dX5_rulesFor_23 (by decide) ?_
      refine g_iadd C dX5_rulesFor_24 ?_
      refine g_iconst C (5 : Int32) dX5_rulesFor_25 (by decide) ?_
      refine g_iload C 4 dX5_rulesFor_26 rfl ?_
      refine g_imul C dX5_rulesFor_28 ?_
      refine g_iadd C dX5_rulesFor_29 ?_
      refine g_iconst C (1 : Int32) dX5_rulesFor_30 (by decide) ?_
      refine g_iadd C dX5_rulesFor_31 ?_
      refine g_topi (fun x5_1 ex5_1 => ?_)
      replace hw := hw x5_1 ex5_1
      refine g_istore C dX5_rulesFor_32 (by decide) (lv' := [(5, .int x5_1), (0, .ref (gh G 17)), (1, .int x1), (2, .int x2), (3, .int x3), (4, .int x4)]) rfl ?_
      refine g_iconst C (1 : Int32) dX5_rulesFor_34 (by decide) ?_
      refine g_istore C dX5_rulesFor_35 (by decide) (lv' := [(6, .int (1 : Int32)), (5, .int x5_1), (0, .ref (gh G 17)), (1, .int x1), (2, .int x2), (3, .int x3), (4, .int x4)]) rfl ?_
      refine g_iconst C (0 : Int32) dX5_rulesFor_37 (by decide) ?_
      refine g_istore C dX5_rulesFor_38 (by decide) (lv' := [(7, .int (0 : Int32)), (6, .int (1 : Int32)), (5, .int x5_1), (0, .ref (gh G 17)), (1, .int x1), (2, .int x2), (3, .int x3), (4, .int x4)]) rfl ?_
      rw [hP40] at hw
      exact g_perm [3, 4, 5, 6, 7, 2, 1, 0] rfl (hw))
  replace hw := hw (by
    intro x3 x4 x5 x6 x7 st hw
    rw [hP40]
    refine g_iload C 7 dX5_rulesFor_40 rfl ?_
    refine g_iconst C (4 : Int32) dX5_rulesFor_42 (by decide) ?_
    refine g_icmp_ge C 86 dX5_rulesFor_43 (by decide) (fun c_17 => ?_) (fun c_17 => ?_)
    · replace hw := hw.1 c_17
      refine g_iload_n C 3 dX5_rulesFor_86 rfl rfl ?_
      refine g_iload C 6 dX5_rulesFor_87 rfl ?_
      refine g_if_eq C 99 dX5_rulesFor_89 (by decide) (fun c_7 => ?_) (fun c_7 => ?_)
      · replace hw := hw.1 c_7
        refine g_iconst C (0 : Int32) dX5_rulesFor_99 (by decide) ?_
        refine g_ior C dX5_rulesFor_100 ?_
        refine g_topi (fun x3_3 ex3_3 => ?_)
        replace hw := hw x3_3 ex3_3
        refine g_istore_n C dX5_rulesFor_101 rfl (by decide) (lv' := [(3, .int x3_3), (0, .ref (gh G 17)), (1, .int x1), (2, .int x2), (4, .int x4), (5, .int x5), (6, .int x6), (7, .int x7)]) rfl ?_
        obtain ⟨x4_4, ex4_4⟩ : ∃ z : Int32, z = x4 + (1 : Int32) := ⟨_, rfl⟩
        replace hw := hw x4_4 ex4_4
        refine g_iinc C x4_4 4 dX5_rulesFor_102 rfl ex4_4.symm (by decide) (lv' := [(4, .int x4_4), (3, .int x3_3), (0, .ref (gh G 17)), (1, .int x1), (2, .int x2), (5, .int x5), (6, .int x6), (7, .int x7)]) rfl ?_
        refine g_goto C 5 dX5_rulesFor_105 (by decide) ?_
        rw [hP5] at hw
        exact g_perm [2, 3, 4, 1, 0] rfl (hw)
      · replace hw := hw.2 c_7
        refine g_iconst C (1 : Int32) dX5_rulesFor_92 (by decide) ?_
        refine g_iload C 4 dX5_rulesFor_93 rfl ?_
        refine g_ishl C dX5_rulesFor_95 ?_
        refine g_goto C 100 dX5_rulesFor_96 (by decide) ?_
        refine g_ior C dX5_rulesFor_100 ?_
        refine g_topi (fun x3_5 ex3_5 => ?_)
        replace hw := hw x3_5 ex3_5
        refine g_istore_n C dX5_rulesFor_101 rfl (by decide) (lv' := [(3, .int x3_5), (0, .ref (gh G 17)), (1, .int x1), (2, .int x2), (4, .int x4), (5, .int x5), (6, .int x6), (7, .int x7)]) rfl ?_
        obtain ⟨x4_6, ex4_6⟩ : ∃ z : Int32, z = x4 + (1 : Int32) := ⟨_, rfl⟩
        replace hw := hw x4_6 ex4_6
        refine g_iinc C x4_6 4 dX5_rulesFor_102 rfl ex4_6.symm (by decide) (lv' := [(4, .int x4_6), (3, .int x3_5), (0, .ref (gh G 17)), (1, .int x1), (2, .int x2), (5, .int x5), (6, .int x6), (7, .int x7)]) rfl ?_
        refine g_goto C 5 dX5_rulesFor_105 (by decide) ?_
        rw [hP5] at hw
        exact g_perm [2, 3, 4, 1, 0] rfl (hw)
    · replace hw := hw.2 c_17
      refine g_iload C 6 dX5_rulesFor_46 rfl ?_
      refine g_if_eq C 77 dX5_rulesFor_48 (by decide) (fun c_16 => ?_) (fun c_16 => ?_)
      · replace hw := hw.1 c_16
        refine g_iconst C (0 : Int32) dX5_rulesFor_77 (by decide) ?_
        refine g_istore C dX5_rulesFor_78 (by decide) (lv' := [(6, .int (0 : Int32)), (0, .ref (gh G 17)), (1, .int x1), (2, .int x2), (3, .int x3), (4, .int x4), (5, .int x5), (7, .int x7)]) rfl ?_
        obtain ⟨x7_8, ex7_8⟩ : ∃ z : Int32, z = x7 + (1 : Int32) := ⟨_, rfl⟩
        replace hw := hw x7_8 ex7_8
        refine g_iinc C x7_8 7 dX5_rulesFor_80 rfl ex7_8.symm (by decide) (lv' := [(7, .int x7_8), (6, .int (0 : Int32)), (0, .ref (gh G 17)), (1, .int x1), (2, .int x2), (3, .int x3), (4, .int x4), (5, .int x5)]) rfl ?_
        refine g_goto C 40 dX5_rulesFor_83 (by decide) ?_
        rw [hP40] at hw
        exact g_perm [2, 3, 4, 5, 6, 7, 1, 0] rfl (hw)
      · replace hw := hw.2 c_16
        refine g_aload_n C 0 dX5_rulesFor_51 rfl rfl ?_
        refine g_get C inX5 (C.win (by decide) (by decide)) rfl rfl 2 (by decide) tw_625 rfl dX5_rulesFor_52 ?_
        refine g_iload C 5 dX5_rulesFor_55 rfl ?_
        refine g_iload C 7 dX5_rulesFor_57 rfl ?_
        refine g_iadd C dX5_rulesFor_59 ?_
        refine g_iald C (C.win (by decide) (by decide)) rfl hw.1 dX5_rulesFor_60 ?_
        replace hw := hw.2
        refine g_iload_n C 2 dX5_rulesFor_61 rfl rfl ?_
        refine g_iload C 7 dX5_rulesFor_62 rfl ?_
        refine g_callSi C (c_X5_partOf l G hO hwin hw) kX5_partOf tw_800 rfl rfl ⟨Nat.le_of_ble_eq_true rfl, Nat.le_of_ble_eq_true rfl⟩ (As := [.int x2, .int x7]) (rest := [.int (st 19 (x5 + x7).toNatClampNeg)]) rfl rfl (Nat.le_of_ble_eq_true rfl) dX5_rulesFor_64 ⟨Nat.le_of_ble_eq_true rfl, Nat.le_of_ble_eq_true rfl⟩ (fun r_10 s_9 hw => ?_)
        refine g_callSi C (c_X5_has l G hO hwin hw) kX5_has tw_702 rfl rfl ⟨Nat.le_of_ble_eq_true rfl, Nat.le_of_ble_eq_true rfl⟩ (As := [.int (st 19 (x5 + x7).toNatClampNeg), .int r_10]) (rest := []) rfl rfl (Nat.le_of_ble_eq_true rfl) dX5_rulesFor_67 ⟨Nat.le_of_ble_eq_true rfl, Nat.le_of_ble_eq_true rfl⟩ (fun r_12 s_11 hw => ?_)
        refine g_if_eq C 77 dX5_rulesFor_70 (by decide) (fun c_15 => ?_) (fun c_15 => ?_)
        · replace hw := hw.1 c_15
          refine g_iconst C (0 : Int32) dX5_rulesFor_77 (by decide) ?_
          refine g_istore C dX5_rulesFor_78 (by decide) (lv' := [(6, .int (0 : Int32)), (0, .ref (gh G 17)), (1, .int x1), (2, .int x2), (3, .int x3), (4, .int x4), (5, .int x5), (7, .int x7)]) rfl ?_
          obtain ⟨x7_13, ex7_13⟩ : ∃ z : Int32, z = x7 + (1 : Int32) := ⟨_, rfl⟩
          replace hw := hw x7_13 ex7_13
          refine g_iinc C x7_13 7 dX5_rulesFor_80 rfl ex7_13.symm (by decide) (lv' := [(7, .int x7_13), (6, .int (0 : Int32)), (0, .ref (gh G 17)), (1, .int x1), (2, .int x2), (3, .int x3), (4, .int x4), (5, .int x5)]) rfl ?_
          refine g_goto C 40 dX5_rulesFor_83 (by decide) ?_
          rw [hP40] at hw
          exact g_perm [2, 3, 4, 5, 6, 7, 1, 0] rfl (hw)
        · replace hw := hw.2 c_15
          refine g_iconst C (1 : Int32) dX5_rulesFor_73 (by decide) ?_
          refine g_goto C 78 dX5_rulesFor_74 (by decide) ?_
          refine g_istore C dX5_rulesFor_78 (by decide) (lv' := [(6, .int (1 : Int32)), (0, .ref (gh G 17)), (1, .int x1), (2, .int x2), (3, .int x3), (4, .int x4), (5, .int x5), (7, .int x7)]) rfl ?_
          obtain ⟨x7_14, ex7_14⟩ : ∃ z : Int32, z = x7 + (1 : Int32) := ⟨_, rfl⟩
          replace hw := hw x7_14 ex7_14
          refine g_iinc C x7_14 7 dX5_rulesFor_80 rfl ex7_14.symm (by decide) (lv' := [(7, .int x7_14), (6, .int (1 : Int32)), (0, .ref (gh G 17)), (1, .int x1), (2, .int x2), (3, .int x3), (4, .int x4), (5, .int x5)]) rfl ?_
          refine g_goto C 40 dX5_rulesFor_83 (by decide) ?_
          rw [hP40] at hw
          exact g_perm [2, 3, 4, 5, 6, 7, 1, 0] rfl (hw))
  refine g_iconst C (0 : Int32) dX5_rulesFor_0 (by decide) ?_
  refine g_istore_n C dX5_rulesFor_1 rfl (by decide) (lv' := [(3, .int (0 : Int32)), (0, .ref (gh G 17)), (1, .int x1), (2, .int x2)]) rfl ?_
  refine g_iconst C (0 : Int32) dX5_rulesFor_2 (by decide) ?_
  refine g_istore C dX5_rulesFor_3 (by decide) (lv' := [(4, .int (0 : Int32)), (3, .int (0 : Int32)), (0, .ref (gh G 17)), (1, .int x1), (2, .int x2)]) rfl ?_
  rw [hP5] at hw
  exact g_perm [2, 3, 4, 1, 0] rfl (hw)

set_option maxHeartbeats 4000000 in
set_option maxRecDepth 100000 in
theorem c_X5_bits (l : Launch) (G : Gp) (hO : gOK G) (hwin : ∀ k, 17 ≤ k → k < 25 → k ∈ gks G) {x0 : Int32}  {st : St} {Q : Int32 → St → Prop} (hw : wp_X5_bits x0 st Q) : MI l G yX5_bits cX5_bits 3 (some .int) { frames := 0, cells := 0, slots := 0, locals := 0 } [.int x0] st Q := by
  refine MI.of (own := RX5) (lo := 17) (hi := 25) hO hwin (by decide) rfl (Nat.le_of_ble_eq_true rfl) (fun p e s m args below meth c C hr hlk => ?_)
  refine g_lv (lv' := [(0, .int x0)]) rfl ?_
  unfold wp_X5_bits at hw
  obtain ⟨P4, hP4⟩ : ∃ P : Int32 → Int32 → St → Prop, P = fun x1 x2 st => WG p l e ({ frames := 0, cells := 0, slots := 0, locals := 0 } : Room) s m args below meth c 0 0 (MQ below (va_Qi Q (gB G) (gA G)) args s 0 0 (gA G)) G 3 4 [(0, .int x0), (1, .int x1), (2, .int x2)] [] st := ⟨_, rfl⟩
  replace hw := hw P4
  replace hw := hw (by
    intro x1 x2 st hw
    rw [hP4]
    refine g_iload_n C 2 dX5_bits_4 rfl rfl ?_
    refine g_bipush C (8 : Int32) dX5_bits_5 (by decide) ?_
    refine g_icmp_ge C 24 dX5_bits_7 (by decide) (fun c_3 => ?_) (fun c_3 => ?_)
    · replace hw := hw.1 c_3
      refine g_iload_n C 1 dX5_bits_24 rfl rfl ?_
      exact g_iret C hr hlk hw dX5_bits_25
    · replace hw := hw.2 c_3
      refine g_iload_n C 1 dX5_bits_10 rfl rfl ?_
      refine g_iload_n C 0 dX5_bits_11 rfl rfl ?_
      refine g_iload_n C 2 dX5_bits_12 rfl rfl ?_
      refine g_ishr C dX5_bits_13 ?_
      refine g_iconst C (1 : Int32) dX5_bits_14 (by decide) ?_
      refine g_iand C dX5_bits_15 ?_
      refine g_iadd C dX5_bits_16 ?_
      refine g_topi (fun x1_1 ex1_1 => ?_)
      replace hw := hw x1_1 ex1_1
      refine g_istore_n C dX5_bits_17 rfl (by decide) (lv' := [(1, .int x1_1), (0, .int x0), (2, .int x2)]) rfl ?_
      obtain ⟨x2_2, ex2_2⟩ : ∃ z : Int32, z = x2 + (1 : Int32) := ⟨_, rfl⟩
      replace hw := hw x2_2 ex2_2
      refine g_iinc C x2_2 2 dX5_bits_18 rfl ex2_2.symm (by decide) (lv' := [(2, .int x2_2), (1, .int x1_1), (0, .int x0)]) rfl ?_
      refine g_goto C 4 dX5_bits_21 (by decide) ?_
      rw [hP4] at hw
      exact g_perm [2, 1, 0] rfl (hw))
  refine g_iconst C (0 : Int32) dX5_bits_0 (by decide) ?_
  refine g_istore_n C dX5_bits_1 rfl (by decide) (lv' := [(1, .int (0 : Int32)), (0, .int x0)]) rfl ?_
  refine g_iconst C (0 : Int32) dX5_bits_2 (by decide) ?_
  refine g_istore_n C dX5_bits_3 rfl (by decide) (lv' := [(2, .int (0 : Int32)), (1, .int (0 : Int32)), (0, .int x0)]) rfl ?_
  rw [hP4] at hw
  exact g_perm [2, 1, 0] rfl (hw)

set_option maxHeartbeats 4000000 in
set_option maxRecDepth 100000 in
theorem c_X5_permits (l : Launch) (G : Gp) (hO : gOK G) (hwin : ∀ k, 17 ≤ k → k < 25 → k ∈ gks G) {x1 : Int32}  {st : St} {Q : Int32 → St → Prop} (hw : wp_X5_permits x1 st Q) : MI l G yX5_permits cX5_permits 4 (some .int) { frames := 0, cells := 0, slots := 0, locals := 0 } [.ref (gh G 17), .int x1] st Q := by
  refine MI.of (own := RX5) (lo := 17) (hi := 25) hO hwin (by decide) rfl (Nat.le_of_ble_eq_true rfl) (fun p e s m args below meth c C hr hlk => ?_)
  refine g_lv (lv' := [(0, .ref (gh G 17)), (1, .int x1)]) rfl ?_
  unfold wp_X5_permits at hw
  obtain ⟨P4, hP4⟩ : ∃ P : Int32 → Int32 → St → Prop, P = fun x2 x3 st => WG p l e ({ frames := 0, cells := 0, slots := 0, locals := 0 } : Room) s m args below meth c 0 0 (MQ below (va_Qi Q (gB G) (gA G)) args s 0 0 (gA G)) G 4 4 [(0, .ref (gh G 17)), (1, .int x1), (2, .int x2), (3, .int x3)] [] st := ⟨_, rfl⟩
  replace hw := hw P4
  replace hw := hw (by
    intro x2 x3 st hw
    rw [hP4]
    refine g_iload_n C 3 dX5_permits_4 rfl rfl ?_
    refine g_aload_n C 0 dX5_permits_5 rfl rfl ?_
    refine g_get C inX5 (C.win (by decide) (by decide)) rfl rfl 2 (by decide) tw_625 rfl dX5_permits_6 ?_
    refine g_bipush C (42 : Int32) dX5_permits_9 (by decide) ?_
    refine g_iload_n C 1 dX5_permits_11 rfl rfl ?_
    refine g_imul C dX5_permits_12 ?_
    refine g_iald C (C.win (by decide) (by decide)) rfl hw.1 dX5_permits_13 ?_
    replace hw := hw.2
    refine g_icmp_ge C 51 dX5_permits_14 (by decide) (fun c_6 => ?_) (fun c_6 => ?_)
    · replace hw := hw.1 c_6
      refine g_iload_n C 2 dX5_permits_51 rfl rfl ?_
      exact g_iret C hr hlk hw dX5_permits_52
    · replace hw := hw.2 c_6
      refine g_iload_n C 2 dX5_permits_17 rfl rfl ?_
      refine g_aload_n C 0 dX5_permits_18 rfl rfl ?_
      refine g_get C inX5 (C.win (by decide) (by decide)) rfl rfl 2 (by decide) tw_625 rfl dX5_permits_19 ?_
      refine g_bipush C (42 : Int32) dX5_permits_22 (by decide) ?_
      refine g_iload_n C 1 dX5_permits_24 rfl rfl ?_
      refine g_imul C dX5_permits_25 ?_
      refine g_iconst C (2 : Int32) dX5_permits_26 (by decide) ?_
      refine g_iadd C dX5_permits_27 ?_
      refine g_iconst C (5 : Int32) dX5_permits_28 (by decide) ?_
      refine g_iload_n C 3 dX5_permits_29 rfl rfl ?_
      refine g_imul C dX5_permits_30 ?_
      refine g_iadd C dX5_permits_31 ?_
      refine g_iald C (C.win (by decide) (by decide)) rfl hw.1 dX5_permits_32 ?_
      replace hw := hw.2
      refine g_if_ne C 42 dX5_permits_33 (by decide) (fun c_5 => ?_) (fun c_5 => ?_)
      · replace hw := hw.2 c_5
        refine g_iconst C (0 : Int32) dX5_permits_42 (by decide) ?_
        refine g_ior C dX5_permits_43 ?_
        refine g_topi (fun x2_1 ex2_1 => ?_)
        replace hw := hw x2_1 ex2_1
        refine g_istore_n C dX5_permits_44 rfl (by decide) (lv' := [(2, .int x2_1), (0, .ref (gh G 17)), (1, .int x1), (3, .int x3)]) rfl ?_
        obtain ⟨x3_2, ex3_2⟩ : ∃ z : Int32, z = x3 + (1 : Int32) := ⟨_, rfl⟩
        replace hw := hw x3_2 ex3_2
        refine g_iinc C x3_2 3 dX5_permits_45 rfl ex3_2.symm (by decide) (lv' := [(3, .int x3_2), (2, .int x2_1), (0, .ref (gh G 17)), (1, .int x1)]) rfl ?_
        refine g_goto C 4 dX5_permits_48 (by decide) ?_
        rw [hP4] at hw
        exact g_perm [2, 3, 1, 0] rfl (hw)
      · replace hw := hw.1 c_5
        refine g_iconst C (1 : Int32) dX5_permits_36 (by decide) ?_
        refine g_iload_n C 3 dX5_permits_37 rfl rfl ?_
        refine g_ishl C dX5_permits_38 ?_
        refine g_goto C 43 dX5_permits_39 (by decide) ?_
        refine g_ior C dX5_permits_43 ?_
        refine g_topi (fun x2_3 ex2_3 => ?_)
        replace hw := hw x2_3 ex2_3
        refine g_istore_n C dX5_permits_44 rfl (by decide) (lv' := [(2, .int x2_3), (0, .ref (gh G 17)), (1, .int x1), (3, .int x3)]) rfl ?_
        obtain ⟨x3_4, ex3_4⟩ : ∃ z : Int32, z = x3 + (1 : Int32) := ⟨_, rfl⟩
        replace hw := hw x3_4 ex3_4
        refine g_iinc C x3_4 3 dX5_permits_45 rfl ex3_4.symm (by decide) (lv' := [(3, .int x3_4), (2, .int x2_3), (0, .ref (gh G 17)), (1, .int x1)]) rfl ?_
        refine g_goto C 4 dX5_permits_48 (by decide) ?_
        rw [hP4] at hw
        exact g_perm [2, 3, 1, 0] rfl (hw))
  refine g_iconst C (0 : Int32) dX5_permits_0 (by decide) ?_
  refine g_istore_n C dX5_permits_1 rfl (by decide) (lv' := [(2, .int (0 : Int32)), (0, .ref (gh G 17)), (1, .int x1)]) rfl ?_
  refine g_iconst C (0 : Int32) dX5_permits_2 (by decide) ?_
  refine g_istore_n C dX5_permits_3 rfl (by decide) (lv' := [(3, .int (0 : Int32)), (2, .int (0 : Int32)), (0, .ref (gh G 17)), (1, .int x1)]) rfl ?_
  rw [hP4] at hw
  exact g_perm [2, 3, 1, 0] rfl (hw)

set_option maxHeartbeats 4000000 in
set_option maxRecDepth 100000 in
theorem c_X5_decided (l : Launch) (G : Gp) (hO : gOK G) (hwin : ∀ k, 17 ≤ k → k < 25 → k ∈ gks G) {x0 : Int32} {x1 : Int32} {x2 : Int32}  {st : St} {Q : Int32 → St → Prop} (hw : wp_X5_decided x0 x1 x2 st Q) : MI l G yX5_decided cX5_decided 6 (some .int) { frames := 1, cells := 0, slots := 0, locals := 22 } [.int x0, .int x1, .int x2] st Q := by
  refine MI.of (own := RX5) (lo := 17) (hi := 25) hO hwin (by decide) rfl (Nat.le_of_ble_eq_true rfl) (fun p e s m args below meth c C hr hlk => ?_)
  refine g_lv (lv' := [(0, .int x0), (1, .int x1), (2, .int x2)]) rfl ?_
  unfold wp_X5_decided at hw
  refine g_iload_n C 1 dX5_decided_0 rfl rfl ?_
  refine g_if_ne C 6 dX5_decided_1 (by decide) (fun c_15 => ?_) (fun c_15 => ?_)
  · replace hw := hw.2 c_15
    refine g_iload_n C 1 dX5_decided_6 rfl rfl ?_
    refine g_iload_n C 2 dX5_decided_7 rfl rfl ?_
    refine g_iand C dX5_decided_8 ?_
    refine g_callSi C (c_X5_bits l G hO hwin hw) kX5_bits tw_810 rfl rfl ⟨Nat.le_of_ble_eq_true rfl, Nat.le_of_ble_eq_true rfl⟩ (As := [.int (x1 &&& x2)]) (rest := []) rfl rfl (Nat.le_of_ble_eq_true rfl) dX5_decided_9 ⟨Nat.le_of_ble_eq_true rfl, Nat.le_of_ble_eq_true rfl⟩ (fun r_2 s_1 hw => ?_)
    refine g_istore_n C dX5_decided_12 rfl (by decide) (lv' := [(3, .int r_2), (0, .int x0), (1, .int x1), (2, .int x2)]) rfl ?_
    refine g_iload_n C 2 dX5_decided_13 rfl rfl ?_
    refine g_callSi C (c_X5_bits l G hO hwin hw) kX5_bits tw_810 rfl rfl ⟨Nat.le_of_ble_eq_true rfl, Nat.le_of_ble_eq_true rfl⟩ (As := [.int x1]) (rest := []) rfl rfl (Nat.le_of_ble_eq_true rfl) dX5_decided_14 ⟨Nat.le_of_ble_eq_true rfl, Nat.le_of_ble_eq_true rfl⟩ (fun r_4 s_3 hw => ?_)
    refine g_iload_n C 0 dX5_decided_17 rfl rfl ?_
    refine g_isub C dX5_decided_18 ?_
    refine g_topi (fun x4_5 ex4_5 => ?_)
    replace hw := hw x4_5 ex4_5
    refine g_istore C dX5_decided_19 (by decide) (lv' := [(4, .int x4_5), (3, .int r_2), (0, .int x0), (1, .int x1), (2, .int x2)]) rfl ?_
    refine g_iload_n C 2 dX5_decided_21 rfl rfl ?_
    rcases sw4 x0 with c_6 | c_6 | c_6 | c_6 | c_6
    · replace hw := hw.1 c_6
      refine g_tableIn C 52 dX5_decided_22 (by rw [c_6]; decide) (by rw [c_6]; decide) (by rw [c_6]; rfl) (by decide) ?_
      refine g_iload_n C 3 dX5_decided_52 rfl rfl ?_
      refine g_iload_n C 3 dX5_decided_53 rfl rfl ?_
      refine g_ineg C dX5_decided_54 ?_
      refine g_iand C dX5_decided_55 ?_
      refine g_topi (fun x5_7 ex5_7 => ?_)
      replace hw := hw x5_7 ex5_7
      refine g_istore C dX5_decided_56 (by decide) (lv' := [(5, .int x5_7), (4, .int x4_5), (3, .int r_2), (0, .int x0), (1, .int x1), (2, .int x2)]) rfl ?_
      refine g_iload C 0 dX5_decided_58 rfl ?_
      refine g_iload_n C 5 dX5_decided_60 rfl rfl ?_
      refine g_iand C dX5_decided_61 ?_
      refine g_if_eq C 69 dX5_decided_62 (by decide) (fun c_8 => ?_) (fun c_8 => ?_)
      · replace hw := hw.1 c_8
        refine g_iconst C (1 : Int32) dX5_decided_69 (by decide) ?_
        exact g_iret C hr hlk hw dX5_decided_70
      · replace hw := hw.2 c_8
        refine g_iconst C (0 : Int32) dX5_decided_65 (by decide) ?_
        refine g_goto C 70 dX5_decided_66 (by decide) ?_
        exact g_iret C hr hlk hw dX5_decided_70
    · replace hw := hw.2.1 c_6
      refine g_tableIn C 71 dX5_decided_22 (by rw [c_6]; decide) (by rw [c_6]; decide) (by rw [c_6]; rfl) (by decide) ?_
      refine g_iload C 0 dX5_decided_71 rfl ?_
      refine g_if_le C 80 dX5_decided_73 (by decide) (fun c_9 => ?_) (fun c_9 => ?_)
      · replace hw := hw.1 c_9
        refine g_iconst C (0 : Int32) dX5_decided_80 (by decide) ?_
        exact g_iret C hr hlk hw dX5_decided_81
      · replace hw := hw.2 c_9
        refine g_iconst C (1 : Int32) dX5_decided_76 (by decide) ?_
        refine g_goto C 81 dX5_decided_77 (by decide) ?_
        exact g_iret C hr hlk hw dX5_decided_81
    · replace hw := hw.2.2.1 c_6
      refine g_tableIn C 82 dX5_decided_22 (by rw [c_6]; decide) (by rw [c_6]; decide) (by rw [c_6]; rfl) (by decide) ?_
      refine g_iload_n C 1 dX5_decided_82 rfl rfl ?_
      refine g_if_le C 90 dX5_decided_83 (by decide) (fun c_10 => ?_) (fun c_10 => ?_)
      · replace hw := hw.1 c_10
        refine g_iconst C (1 : Int32) dX5_decided_90 (by decide) ?_
        exact g_iret C hr hlk hw dX5_decided_91
      · replace hw := hw.2 c_10
        refine g_iconst C (0 : Int32) dX5_decided_86 (by decide) ?_
        refine g_goto C 91 dX5_decided_87 (by decide) ?_
        exact g_iret C hr hlk hw dX5_decided_91
    · replace hw := hw.2.2.2.1 c_6
      refine g_tableIn C 92 dX5_decided_22 (by rw [c_6]; decide) (by rw [c_6]; decide) (by rw [c_6]; rfl) (by decide) ?_
      refine g_iload_n C 1 dX5_decided_92 rfl rfl ?_
      refine g_iload C 0 dX5_decided_93 rfl ?_
      refine g_iadd C dX5_decided_95 ?_
      refine g_iconst C (1 : Int32) dX5_decided_96 (by decide) ?_
      refine g_icmp_le C 104 dX5_decided_97 (by decide) (fun c_12 => ?_) (fun c_12 => ?_)
      · replace hw := hw.1 c_12
        refine g_iload_n C 1 dX5_decided_104 rfl rfl ?_
        refine g_iconst C (1 : Int32) dX5_decided_105 (by decide) ?_
        refine g_icmp_ne C 113 dX5_decided_106 (by decide) (fun c_11 => ?_) (fun c_11 => ?_)
        · replace hw := hw.2 c_11
          refine g_iconst C (1 : Int32) dX5_decided_113 (by decide) ?_
          exact g_iret C hr hlk hw dX5_decided_114
        · replace hw := hw.1 c_11
          refine g_iconst C (0 : Int32) dX5_decided_109 (by decide) ?_
          refine g_goto C 114 dX5_decided_110 (by decide) ?_
          exact g_iret C hr hlk hw dX5_decided_114
      · replace hw := hw.2 c_12
        refine g_iconst C (3 : Int32) dX5_decided_100 (by decide) ?_
        refine g_goto C 114 dX5_decided_101 (by decide) ?_
        exact g_iret C hr hlk hw dX5_decided_114
    · replace hw := hw.2.2.2.2 c_6.1
      refine g_table C 115 dX5_decided_22 c_6.2 (by decide) ?_
      refine g_iload_n C 1 dX5_decided_115 rfl rfl ?_
      refine g_iload C 0 dX5_decided_116 rfl ?_
      refine g_icmp_le C 125 dX5_decided_118 (by decide) (fun c_14 => ?_) (fun c_14 => ?_)
      · replace hw := hw.1 c_14
        refine g_iload_n C 1 dX5_decided_125 rfl rfl ?_
        refine g_iload C 0 dX5_decided_126 rfl ?_
        refine g_icmp_ge C 135 dX5_decided_128 (by decide) (fun c_13 => ?_) (fun c_13 => ?_)
        · replace hw := hw.1 c_13
          refine g_iconst C (3 : Int32) dX5_decided_135 (by decide) ?_
          exact g_iret C hr hlk hw dX5_decided_136
        · replace hw := hw.2 c_13
          refine g_iconst C (1 : Int32) dX5_decided_131 (by decide) ?_
          refine g_goto C 136 dX5_decided_132 (by decide) ?_
          exact g_iret C hr hlk hw dX5_decided_136
      · replace hw := hw.2 c_14
        refine g_iconst C (0 : Int32) dX5_decided_121 (by decide) ?_
        refine g_goto C 136 dX5_decided_122 (by decide) ?_
        exact g_iret C hr hlk hw dX5_decided_136
  · replace hw := hw.1 c_15
    refine g_iconst C (2 : Int32) dX5_decided_4 (by decide) ?_
    exact g_iret C hr hlk hw dX5_decided_5

set_option maxHeartbeats 4000000 in
set_option maxRecDepth 100000 in
theorem c_X5_decision (l : Launch) (G : Gp) (hO : gOK G) (hwin : ∀ k, 17 ≤ k → k < 25 → k ∈ gks G) {x1 : Int32} {x2 : Int32}  {st : St} {Q : Int32 → St → Prop} (hw : wp_X5_decision x1 x2 st Q) : MI l G yX5_decision cX5_decision 3 (some .int) { frames := 2, cells := 0, slots := 0, locals := 48 } [.ref (gh G 17), .int x1, .int x2] st Q := by
  refine MI.of (own := RX5) (lo := 17) (hi := 25) hO hwin (by decide) rfl (Nat.le_of_ble_eq_true rfl) (fun p e s m args below meth c C hr hlk => ?_)
  refine g_lv (lv' := [(0, .ref (gh G 17)), (1, .int x1), (2, .int x2)]) rfl ?_
  unfold wp_X5_decision at hw
  refine g_aload_n C 0 dX5_decision_0 rfl rfl ?_
  refine g_get C inX5 (C.win (by decide) (by decide)) rfl rfl 2 (by decide) tw_625 rfl dX5_decision_1 ?_
  refine g_bipush C (42 : Int32) dX5_decision_4 (by decide) ?_
  refine g_iload_n C 1 dX5_decision_6 rfl rfl ?_
  refine g_imul C dX5_decision_7 ?_
  refine g_iconst C (1 : Int32) dX5_decision_8 (by decide) ?_
  refine g_iadd C dX5_decision_9 ?_
  refine g_iald C (C.win (by decide) (by decide)) rfl hw.1 dX5_decision_10 ?_
  replace hw := hw.2
  refine g_aload_n C 0 dX5_decision_11 rfl rfl ?_
  refine g_iload_n C 1 dX5_decision_12 rfl rfl ?_
  refine g_iload_n C 2 dX5_decision_13 rfl rfl ?_
  refine g_callVi C (c_X5_rulesFor l G hO hwin hw) kX5_rulesFor tw_796 (Rv.of C (C.win (by decide) (by decide)) rfl (ci := 5) rfl) rfl rfl ⟨Nat.le_of_ble_eq_true rfl, Nat.le_of_ble_eq_true rfl⟩ (As := [.int x1, .int x2]) (rest := [.int (st 19 (((42 : Int32) * x1) + (1 : Int32)).toNatClampNeg)]) rfl rfl (Nat.le_of_ble_eq_true rfl) dX5_decision_14 ⟨Nat.le_of_ble_eq_true rfl, Nat.le_of_ble_eq_true rfl⟩ (fun r_2 s_1 hw => ?_)
  refine g_aload_n C 0 dX5_decision_17 rfl rfl ?_
  refine g_iload_n C 1 dX5_decision_18 rfl rfl ?_
  refine g_callVi C (c_X5_permits l G hO hwin hw) kX5_permits tw_803 (Rv.of C (C.win (by decide) (by decide)) rfl (ci := 5) rfl) rfl rfl ⟨Nat.le_of_ble_eq_true rfl, Nat.le_of_ble_eq_true rfl⟩ (As := [.int x1]) (rest := [.int r_2, .int (st 19 (((42 : Int32) * x1) + (1 : Int32)).toNatClampNeg)]) rfl rfl (Nat.le_of_ble_eq_true rfl) dX5_decision_19 ⟨Nat.le_of_ble_eq_true rfl, Nat.le_of_ble_eq_true rfl⟩ (fun r_4 s_3 hw => ?_)
  refine g_callSi C (c_X5_decided l G hO hwin hw) kX5_decided tw_807 rfl rfl ⟨Nat.le_of_ble_eq_true rfl, Nat.le_of_ble_eq_true rfl⟩ (As := [.int (st 19 (((42 : Int32) * x1) + (1 : Int32)).toNatClampNeg), .int r_2, .int r_4]) (rest := []) rfl rfl (Nat.le_of_ble_eq_true rfl) dX5_decision_22 ⟨Nat.le_of_ble_eq_true rfl, Nat.le_of_ble_eq_true rfl⟩ (fun r_6 s_5 hw => ?_)
  exact g_iret C hr hlk hw dX5_decision_25

set_option maxHeartbeats 4000000 in
set_option maxRecDepth 100000 in
theorem c_X5_isRequest (l : Launch) (G : Gp) (hO : gOK G) (hwin : ∀ k, 17 ≤ k → k < 25 → k ∈ gks G) {x0 : Int32}  {st : St} {Q : Int32 → St → Prop} (hw : wp_X5_isRequest x0 st Q) : MI l G yX5_isRequest cX5_isRequest 1 (some .boolean) { frames := 1, cells := 0, slots := 0, locals := 22 } [.int x0] st Q := by
  refine MI.of (own := RX5) (lo := 17) (hi := 25) hO hwin (by decide) rfl (Nat.le_of_ble_eq_true rfl) (fun p e s m args below meth c C hr hlk => ?_)
  refine g_lv (lv' := [(0, .int x0)]) rfl ?_
  unfold wp_X5_isRequest at hw
  refine g_iload_n C 0 dX5_isRequest_0 rfl rfl ?_
  refine g_iconst C (0 : Int32) dX5_isRequest_1 (by decide) ?_
  refine g_sipush C (1023 : Int32) dX5_isRequest_2 (by decide) ?_
  refine g_callSi C (c_X5_in l G hO hwin hw) kX5_in tw_661 rfl rfl ⟨Nat.le_of_ble_eq_true rfl, Nat.le_of_ble_eq_true rfl⟩ (As := [.int x0, .int (0 : Int32), .int (1023 : Int32)]) (rest := []) rfl rfl (Nat.le_of_ble_eq_true rfl) dX5_isRequest_5 ⟨Nat.le_of_ble_eq_true rfl, Nat.le_of_ble_eq_true rfl⟩ (fun r_2 s_1 hw => ?_)
  exact g_zret C hr hlk (nar_bool hw.1) hw.2 dX5_isRequest_8

set_option maxHeartbeats 4000000 in
set_option maxRecDepth 100000 in
theorem c_X5_decide (l : Launch) (G : Gp) (hO : gOK G) (hwin : ∀ k, 17 ≤ k → k < 25 → k ∈ gks G) {x1 : Int32} {x2 : Int32}  {st : St} {Q : Int32 → St → Prop} (hw : wp_X5_decide x1 x2 st Q) : MI l G yX5_decide cX5_decide 3 (some .int) { frames := 3, cells := 0, slots := 0, locals := 70 } [.ref (gh G 17), .int x1, .int x2] st Q := by
  refine MI.of (own := RX5) (lo := 17) (hi := 25) hO hwin (by decide) rfl (Nat.le_of_ble_eq_true rfl) (fun p e s m args below meth c C hr hlk => ?_)
  refine g_lv (lv' := [(0, .ref (gh G 17)), (1, .int x1), (2, .int x2)]) rfl ?_
  unfold wp_X5_decide at hw
  refine g_iload_n C 1 dX5_decide_0 rfl rfl ?_
  refine g_callSi C (c_X5_isPolicy l G hO hwin hw) kX5_isPolicy tw_726 rfl rfl ⟨Nat.le_of_ble_eq_true rfl, Nat.le_of_ble_eq_true rfl⟩ (As := [.int x1]) (rest := []) rfl rfl (Nat.le_of_ble_eq_true rfl) dX5_decide_1 ⟨Nat.le_of_ble_eq_true rfl, Nat.le_of_ble_eq_true rfl⟩ (fun r_2 s_1 hw => ?_)
  refine g_if_eq C 23 dX5_decide_4 (by decide) (fun c_8 => ?_) (fun c_8 => ?_)
  · replace hw := hw.1 c_8
    refine g_iconst C (-1 : Int32) dX5_decide_23 (by decide) ?_
    exact g_iret C hr hlk hw dX5_decide_24
  · replace hw := hw.2 c_8
    refine g_iload_n C 2 dX5_decide_7 rfl rfl ?_
    refine g_callSi C (c_X5_isRequest l G hO hwin hw) kX5_isRequest tw_789 rfl rfl ⟨Nat.le_of_ble_eq_true rfl, Nat.le_of_ble_eq_true rfl⟩ (As := [.int x2]) (rest := []) rfl rfl (Nat.le_of_ble_eq_true rfl) dX5_decide_8 ⟨Nat.le_of_ble_eq_true rfl, Nat.le_of_ble_eq_true rfl⟩ (fun r_4 s_3 hw => ?_)
    refine g_if_eq C 23 dX5_decide_11 (by decide) (fun c_7 => ?_) (fun c_7 => ?_)
    · replace hw := hw.1 c_7
      refine g_iconst C (-1 : Int32) dX5_decide_23 (by decide) ?_
      exact g_iret C hr hlk hw dX5_decide_24
    · replace hw := hw.2 c_7
      refine g_aload_n C 0 dX5_decide_14 rfl rfl ?_
      refine g_iload_n C 1 dX5_decide_15 rfl rfl ?_
      refine g_iload_n C 2 dX5_decide_16 rfl rfl ?_
      refine g_callVi C (c_X5_decision l G hO hwin hw) kX5_decision tw_792 (Rv.of C (C.win (by decide) (by decide)) rfl (ci := 5) rfl) rfl rfl ⟨Nat.le_of_ble_eq_true rfl, Nat.le_of_ble_eq_true rfl⟩ (As := [.int x1, .int x2]) (rest := []) rfl rfl (Nat.le_of_ble_eq_true rfl) dX5_decide_17 ⟨Nat.le_of_ble_eq_true rfl, Nat.le_of_ble_eq_true rfl⟩ (fun r_6 s_5 hw => ?_)
      refine g_goto C 24 dX5_decide_20 (by decide) ?_
      exact g_iret C hr hlk hw dX5_decide_24

set_option maxHeartbeats 4000000 in
set_option maxRecDepth 100000 in
theorem c_X5_decisionCount (l : Launch) (G : Gp) (hO : gOK G) (hwin : ∀ k, 17 ≤ k → k < 25 → k ∈ gks G) {x1 : Int32} {x2 : Int32}  {st : St} {Q : Int32 → St → Prop} (hw : wp_X5_decisionCount x1 x2 st Q) : MI l G yX5_decisionCount cX5_decisionCount 5 (some .int) { frames := 3, cells := 0, slots := 0, locals := 70 } [.ref (gh G 17), .int x1, .int x2] st Q := by
  refine MI.of (own := RX5) (lo := 17) (hi := 25) hO hwin (by decide) rfl (Nat.le_of_ble_eq_true rfl) (fun p e s m args below meth c C hr hlk => ?_)
  refine g_lv (lv' := [(0, .ref (gh G 17)), (1, .int x1), (2, .int x2)]) rfl ?_
  unfold wp_X5_decisionCount at hw
  obtain ⟨P23, hP23⟩ : ∃ P : Int32 → Int32 → St → Prop, P = fun x3 x4 st => WG p l e ({ frames := 3, cells := 0, slots := 0, locals := 70 } : Room) s m args below meth c 0 0 (MQ below (va_Qi Q (gB G) (gA G)) args s 0 0 (gA G)) G 5 23 [(0, .ref (gh G 17)), (1, .int x1), (2, .int x2), (3, .int x3), (4, .int x4)] [] st := ⟨_, rfl⟩
  replace hw := hw P23
  replace hw := hw (by
    intro x3 x4 st hw
    rw [hP23]
    refine g_iload C 4 dX5_decisionCount_23 rfl ?_
    refine g_sipush C (1024 : Int32) dX5_decisionCount_25 (by decide) ?_
    refine g_icmp_ge C 56 dX5_decisionCount_28 (by decide) (fun c_8 => ?_) (fun c_8 => ?_)
    · replace hw := hw.1 c_8
      refine g_iload_n C 3 dX5_decisionCount_56 rfl rfl ?_
      exact g_iret C hr hlk hw dX5_decisionCount_57
    · replace hw := hw.2 c_8
      refine g_iload_n C 3 dX5_decisionCount_31 rfl rfl ?_
      refine g_aload_n C 0 dX5_decisionCount_32 rfl rfl ?_
      refine g_iload_n C 1 dX5_decisionCount_33 rfl rfl ?_
      refine g_iload C 4 dX5_decisionCount_34 rfl ?_
      refine g_callVi C (c_X5_decision l G hO hwin hw) kX5_decision tw_792 (Rv.of C (C.win (by decide) (by decide)) rfl (ci := 5) rfl) rfl rfl ⟨Nat.le_of_ble_eq_true rfl, Nat.le_of_ble_eq_true rfl⟩ (As := [.int x1, .int x4]) (rest := [.int x3]) rfl rfl (Nat.le_of_ble_eq_true rfl) dX5_decisionCount_36 ⟨Nat.le_of_ble_eq_true rfl, Nat.le_of_ble_eq_true rfl⟩ (fun r_2 s_1 hw => ?_)
      refine g_iload_n C 2 dX5_decisionCount_39 rfl rfl ?_
      refine g_icmp_ne C 47 dX5_decisionCount_40 (by decide) (fun c_7 => ?_) (fun c_7 => ?_)
      · replace hw := hw.2 c_7
        refine g_iconst C (0 : Int32) dX5_decisionCount_47 (by decide) ?_
        refine g_iadd C dX5_decisionCount_48 ?_
        refine g_topi (fun x3_3 ex3_3 => ?_)
        replace hw := hw x3_3 ex3_3
        refine g_istore_n C dX5_decisionCount_49 rfl (by decide) (lv' := [(3, .int x3_3), (0, .ref (gh G 17)), (1, .int x1), (2, .int x2), (4, .int x4)]) rfl ?_
        obtain ⟨x4_4, ex4_4⟩ : ∃ z : Int32, z = x4 + (1 : Int32) := ⟨_, rfl⟩
        replace hw := hw x4_4 ex4_4
        refine g_iinc C x4_4 4 dX5_decisionCount_50 rfl ex4_4.symm (by decide) (lv' := [(4, .int x4_4), (3, .int x3_3), (0, .ref (gh G 17)), (1, .int x1), (2, .int x2)]) rfl ?_
        refine g_goto C 23 dX5_decisionCount_53 (by decide) ?_
        rw [hP23] at hw
        exact g_perm [2, 3, 4, 1, 0] rfl (hw)
      · replace hw := hw.1 c_7
        refine g_iconst C (1 : Int32) dX5_decisionCount_43 (by decide) ?_
        refine g_goto C 48 dX5_decisionCount_44 (by decide) ?_
        refine g_iadd C dX5_decisionCount_48 ?_
        refine g_topi (fun x3_5 ex3_5 => ?_)
        replace hw := hw x3_5 ex3_5
        refine g_istore_n C dX5_decisionCount_49 rfl (by decide) (lv' := [(3, .int x3_5), (0, .ref (gh G 17)), (1, .int x1), (2, .int x2), (4, .int x4)]) rfl ?_
        obtain ⟨x4_6, ex4_6⟩ : ∃ z : Int32, z = x4 + (1 : Int32) := ⟨_, rfl⟩
        replace hw := hw x4_6 ex4_6
        refine g_iinc C x4_6 4 dX5_decisionCount_50 rfl ex4_6.symm (by decide) (lv' := [(4, .int x4_6), (3, .int x3_5), (0, .ref (gh G 17)), (1, .int x1), (2, .int x2)]) rfl ?_
        refine g_goto C 23 dX5_decisionCount_53 (by decide) ?_
        rw [hP23] at hw
        exact g_perm [2, 3, 4, 1, 0] rfl (hw))
  refine g_iload_n C 1 dX5_decisionCount_0 rfl rfl ?_
  refine g_callSi C (c_X5_isPolicy l G hO hwin hw) kX5_isPolicy tw_726 rfl rfl ⟨Nat.le_of_ble_eq_true rfl, Nat.le_of_ble_eq_true rfl⟩ (As := [.int x1]) (rest := []) rfl rfl (Nat.le_of_ble_eq_true rfl) dX5_decisionCount_1 ⟨Nat.le_of_ble_eq_true rfl, Nat.le_of_ble_eq_true rfl⟩ (fun r_10 s_9 hw => ?_)
  refine g_if_eq C 16 dX5_decisionCount_4 (by decide) (fun c_14 => ?_) (fun c_14 => ?_)
  · replace hw := hw.1 c_14
    refine g_iconst C (-1 : Int32) dX5_decisionCount_16 (by decide) ?_
    exact g_iret C hr hlk hw dX5_decisionCount_17
  · replace hw := hw.2 c_14
    refine g_iload_n C 2 dX5_decisionCount_7 rfl rfl ?_
    refine g_iconst C (0 : Int32) dX5_decisionCount_8 (by decide) ?_
    refine g_iconst C (3 : Int32) dX5_decisionCount_9 (by decide) ?_
    refine g_callSi C (c_X5_in l G hO hwin hw) kX5_in tw_661 rfl rfl ⟨Nat.le_of_ble_eq_true rfl, Nat.le_of_ble_eq_true rfl⟩ (As := [.int x2, .int (0 : Int32), .int (3 : Int32)]) (rest := []) rfl rfl (Nat.le_of_ble_eq_true rfl) dX5_decisionCount_10 ⟨Nat.le_of_ble_eq_true rfl, Nat.le_of_ble_eq_true rfl⟩ (fun r_12 s_11 hw => ?_)
    refine g_if_ne C 18 dX5_decisionCount_13 (by decide) (fun c_13 => ?_) (fun c_13 => ?_)
    · replace hw := hw.2 c_13
      refine g_iconst C (0 : Int32) dX5_decisionCount_18 (by decide) ?_
      refine g_istore_n C dX5_decisionCount_19 rfl (by decide) (lv' := [(3, .int (0 : Int32)), (0, .ref (gh G 17)), (1, .int x1), (2, .int x2)]) rfl ?_
      refine g_iconst C (0 : Int32) dX5_decisionCount_20 (by decide) ?_
      refine g_istore C dX5_decisionCount_21 (by decide) (lv' := [(4, .int (0 : Int32)), (3, .int (0 : Int32)), (0, .ref (gh G 17)), (1, .int x1), (2, .int x2)]) rfl ?_
      rw [hP23] at hw
      exact g_perm [2, 3, 4, 1, 0] rfl (hw)
    · replace hw := hw.1 c_13
      refine g_iconst C (-1 : Int32) dX5_decisionCount_16 (by decide) ?_
      exact g_iret C hr hlk hw dX5_decisionCount_17

set_option maxHeartbeats 4000000 in
set_option maxRecDepth 100000 in
theorem c_X5_applicableRules (l : Launch) (G : Gp) (hO : gOK G) (hwin : ∀ k, 17 ≤ k → k < 25 → k ∈ gks G) {x1 : Int32} {x2 : Int32}  {st : St} {Q : Int32 → St → Prop} (hw : wp_X5_applicableRules x1 x2 st Q) : MI l G yX5_applicableRules cX5_applicableRules 3 (some .int) { frames := 2, cells := 0, slots := 0, locals := 48 } [.ref (gh G 17), .int x1, .int x2] st Q := by
  refine MI.of (own := RX5) (lo := 17) (hi := 25) hO hwin (by decide) rfl (Nat.le_of_ble_eq_true rfl) (fun p e s m args below meth c C hr hlk => ?_)
  refine g_lv (lv' := [(0, .ref (gh G 17)), (1, .int x1), (2, .int x2)]) rfl ?_
  unfold wp_X5_applicableRules at hw
  refine g_iload_n C 1 dX5_applicableRules_0 rfl rfl ?_
  refine g_callSi C (c_X5_isPolicy l G hO hwin hw) kX5_isPolicy tw_726 rfl rfl ⟨Nat.le_of_ble_eq_true rfl, Nat.le_of_ble_eq_true rfl⟩ (As := [.int x1]) (rest := []) rfl rfl (Nat.le_of_ble_eq_true rfl) dX5_applicableRules_1 ⟨Nat.le_of_ble_eq_true rfl, Nat.le_of_ble_eq_true rfl⟩ (fun r_2 s_1 hw => ?_)
  refine g_if_eq C 26 dX5_applicableRules_4 (by decide) (fun c_10 => ?_) (fun c_10 => ?_)
  · replace hw := hw.1 c_10
    refine g_iconst C (-1 : Int32) dX5_applicableRules_26 (by decide) ?_
    exact g_iret C hr hlk hw dX5_applicableRules_27
  · replace hw := hw.2 c_10
    refine g_iload_n C 2 dX5_applicableRules_7 rfl rfl ?_
    refine g_callSi C (c_X5_isRequest l G hO hwin hw) kX5_isRequest tw_789 rfl rfl ⟨Nat.le_of_ble_eq_true rfl, Nat.le_of_ble_eq_true rfl⟩ (As := [.int x2]) (rest := []) rfl rfl (Nat.le_of_ble_eq_true rfl) dX5_applicableRules_8 ⟨Nat.le_of_ble_eq_true rfl, Nat.le_of_ble_eq_true rfl⟩ (fun r_4 s_3 hw => ?_)
    refine g_if_eq C 26 dX5_applicableRules_11 (by decide) (fun c_9 => ?_) (fun c_9 => ?_)
    · replace hw := hw.1 c_9
      refine g_iconst C (-1 : Int32) dX5_applicableRules_26 (by decide) ?_
      exact g_iret C hr hlk hw dX5_applicableRules_27
    · replace hw := hw.2 c_9
      refine g_aload_n C 0 dX5_applicableRules_14 rfl rfl ?_
      refine g_iload_n C 1 dX5_applicableRules_15 rfl rfl ?_
      refine g_iload_n C 2 dX5_applicableRules_16 rfl rfl ?_
      refine g_callVi C (c_X5_rulesFor l G hO hwin hw) kX5_rulesFor tw_796 (Rv.of C (C.win (by decide) (by decide)) rfl (ci := 5) rfl) rfl rfl ⟨Nat.le_of_ble_eq_true rfl, Nat.le_of_ble_eq_true rfl⟩ (As := [.int x1, .int x2]) (rest := []) rfl rfl (Nat.le_of_ble_eq_true rfl) dX5_applicableRules_17 ⟨Nat.le_of_ble_eq_true rfl, Nat.le_of_ble_eq_true rfl⟩ (fun r_6 s_5 hw => ?_)
      refine g_callSi C (c_X5_bits l G hO hwin hw) kX5_bits tw_810 rfl rfl ⟨Nat.le_of_ble_eq_true rfl, Nat.le_of_ble_eq_true rfl⟩ (As := [.int r_6]) (rest := []) rfl rfl (Nat.le_of_ble_eq_true rfl) dX5_applicableRules_20 ⟨Nat.le_of_ble_eq_true rfl, Nat.le_of_ble_eq_true rfl⟩ (fun r_8 s_7 hw => ?_)
      refine g_goto C 27 dX5_applicableRules_23 (by decide) ?_
      exact g_iret C hr hlk hw dX5_applicableRules_27

set_option maxHeartbeats 4000000 in
set_option maxRecDepth 100000 in
theorem c_X5_gains (l : Launch) (G : Gp) (hO : gOK G) (hwin : ∀ k, 17 ≤ k → k < 25 → k ∈ gks G) {x1 : Int32}  {st : St} {Q : Int32 → St → Prop} (hw : wp_X5_gains x1 st Q) : MI l G yX5_gains cX5_gains 2 (some .boolean) { frames := 3, cells := 0, slots := 0, locals := 70 } [.ref (gh G 17), .int x1] st Q := by
  refine MI.of (own := RX5) (lo := 17) (hi := 25) hO hwin (by decide) rfl (Nat.le_of_ble_eq_true rfl) (fun p e s m args below meth c C hr hlk => ?_)
  refine g_lv (lv' := [(0, .ref (gh G 17)), (1, .int x1)]) rfl ?_
  unfold wp_X5_gains at hw
  refine g_aload_n C 0 dX5_gains_0 rfl rfl ?_
  refine g_iconst C (1 : Int32) dX5_gains_1 (by decide) ?_
  refine g_iload_n C 1 dX5_gains_2 rfl rfl ?_
  refine g_callVi C (c_X5_decision l G hO hwin hw) kX5_decision tw_792 (Rv.of C (C.win (by decide) (by decide)) rfl (ci := 5) rfl) rfl rfl ⟨Nat.le_of_ble_eq_true rfl, Nat.le_of_ble_eq_true rfl⟩ (As := [.int (1 : Int32), .int x1]) (rest := []) rfl rfl (Nat.le_of_ble_eq_true rfl) dX5_gains_3 ⟨Nat.le_of_ble_eq_true rfl, Nat.le_of_ble_eq_true rfl⟩ (fun r_2 s_1 hw => ?_)
  refine g_if_ne C 22 dX5_gains_6 (by decide) (fun c_6 => ?_) (fun c_6 => ?_)
  · replace hw := hw.2 c_6
    refine g_iconst C (0 : Int32) dX5_gains_22 (by decide) ?_
    exact g_zret C hr hlk rfl hw dX5_gains_23
  · replace hw := hw.1 c_6
    refine g_aload_n C 0 dX5_gains_9 rfl rfl ?_
    refine g_iconst C (0 : Int32) dX5_gains_10 (by decide) ?_
    refine g_iload_n C 1 dX5_gains_11 rfl rfl ?_
    refine g_callVi C (c_X5_decision l G hO hwin hw) kX5_decision tw_792 (Rv.of C (C.win (by decide) (by decide)) rfl (ci := 5) rfl) rfl rfl ⟨Nat.le_of_ble_eq_true rfl, Nat.le_of_ble_eq_true rfl⟩ (As := [.int (0 : Int32), .int x1]) (rest := []) rfl rfl (Nat.le_of_ble_eq_true rfl) dX5_gains_12 ⟨Nat.le_of_ble_eq_true rfl, Nat.le_of_ble_eq_true rfl⟩ (fun r_4 s_3 hw => ?_)
    refine g_if_eq C 22 dX5_gains_15 (by decide) (fun c_5 => ?_) (fun c_5 => ?_)
    · replace hw := hw.1 c_5
      refine g_iconst C (0 : Int32) dX5_gains_22 (by decide) ?_
      exact g_zret C hr hlk rfl hw dX5_gains_23
    · replace hw := hw.2 c_5
      refine g_iconst C (1 : Int32) dX5_gains_18 (by decide) ?_
      refine g_goto C 23 dX5_gains_19 (by decide) ?_
      exact g_zret C hr hlk rfl hw dX5_gains_23

set_option maxHeartbeats 4000000 in
set_option maxRecDepth 100000 in
theorem c_X5_loses (l : Launch) (G : Gp) (hO : gOK G) (hwin : ∀ k, 17 ≤ k → k < 25 → k ∈ gks G) {x1 : Int32}  {st : St} {Q : Int32 → St → Prop} (hw : wp_X5_loses x1 st Q) : MI l G yX5_loses cX5_loses 2 (some .boolean) { frames := 3, cells := 0, slots := 0, locals := 70 } [.ref (gh G 17), .int x1] st Q := by
  refine MI.of (own := RX5) (lo := 17) (hi := 25) hO hwin (by decide) rfl (Nat.le_of_ble_eq_true rfl) (fun p e s m args below meth c C hr hlk => ?_)
  refine g_lv (lv' := [(0, .ref (gh G 17)), (1, .int x1)]) rfl ?_
  unfold wp_X5_loses at hw
  refine g_aload_n C 0 dX5_loses_0 rfl rfl ?_
  refine g_iconst C (0 : Int32) dX5_loses_1 (by decide) ?_
  refine g_iload_n C 1 dX5_loses_2 rfl rfl ?_
  refine g_callVi C (c_X5_decision l G hO hwin hw) kX5_decision tw_792 (Rv.of C (C.win (by decide) (by decide)) rfl (ci := 5) rfl) rfl rfl ⟨Nat.le_of_ble_eq_true rfl, Nat.le_of_ble_eq_true rfl⟩ (As := [.int (0 : Int32), .int x1]) (rest := []) rfl rfl (Nat.le_of_ble_eq_true rfl) dX5_loses_3 ⟨Nat.le_of_ble_eq_true rfl, Nat.le_of_ble_eq_true rfl⟩ (fun r_2 s_1 hw => ?_)
  refine g_if_ne C 22 dX5_loses_6 (by decide) (fun c_6 => ?_) (fun c_6 => ?_)
  · replace hw := hw.2 c_6
    refine g_iconst C (0 : Int32) dX5_loses_22 (by decide) ?_
    exact g_zret C hr hlk rfl hw dX5_loses_23
  · replace hw := hw.1 c_6
    refine g_aload_n C 0 dX5_loses_9 rfl rfl ?_
    refine g_iconst C (1 : Int32) dX5_loses_10 (by decide) ?_
    refine g_iload_n C 1 dX5_loses_11 rfl rfl ?_
    refine g_callVi C (c_X5_decision l G hO hwin hw) kX5_decision tw_792 (Rv.of C (C.win (by decide) (by decide)) rfl (ci := 5) rfl) rfl rfl ⟨Nat.le_of_ble_eq_true rfl, Nat.le_of_ble_eq_true rfl⟩ (As := [.int (1 : Int32), .int x1]) (rest := []) rfl rfl (Nat.le_of_ble_eq_true rfl) dX5_loses_12 ⟨Nat.le_of_ble_eq_true rfl, Nat.le_of_ble_eq_true rfl⟩ (fun r_4 s_3 hw => ?_)
    refine g_if_eq C 22 dX5_loses_15 (by decide) (fun c_5 => ?_) (fun c_5 => ?_)
    · replace hw := hw.1 c_5
      refine g_iconst C (0 : Int32) dX5_loses_22 (by decide) ?_
      exact g_zret C hr hlk rfl hw dX5_loses_23
    · replace hw := hw.2 c_5
      refine g_iconst C (1 : Int32) dX5_loses_18 (by decide) ?_
      refine g_goto C 23 dX5_loses_19 (by decide) ?_
      exact g_zret C hr hlk rfl hw dX5_loses_23

set_option maxHeartbeats 4000000 in
set_option maxRecDepth 100000 in
theorem c_X5_gainCount (l : Launch) (G : Gp) (hO : gOK G) (hwin : ∀ k, 17 ≤ k → k < 25 → k ∈ gks G)   {st : St} {Q : Int32 → St → Prop} (hw : wp_X5_gainCount  st Q) : MI l G yX5_gainCount cX5_gainCount 3 (some .int) { frames := 4, cells := 0, slots := 0, locals := 91 } [.ref (gh G 17)] st Q := by
  refine MI.of (own := RX5) (lo := 17) (hi := 25) hO hwin (by decide) rfl (Nat.le_of_ble_eq_true rfl) (fun p e s m args below meth c C hr hlk => ?_)
  refine g_lv (lv' := [(0, .ref (gh G 17))]) rfl ?_
  unfold wp_X5_gainCount at hw
  obtain ⟨P4, hP4⟩ : ∃ P : Int32 → Int32 → St → Prop, P = fun x1 x2 st => WG p l e ({ frames := 4, cells := 0, slots := 0, locals := 91 } : Room) s m args below meth c 0 0 (MQ below (va_Qi Q (gB G) (gA G)) args s 0 0 (gA G)) G 3 4 [(0, .ref (gh G 17)), (1, .int x1), (2, .int x2)] [] st := ⟨_, rfl⟩
  replace hw := hw P4
  replace hw := hw (by
    intro x1 x2 st hw
    rw [hP4]
    refine g_iload_n C 2 dX5_gainCount_4 rfl rfl ?_
    refine g_sipush C (1024 : Int32) dX5_gainCount_5 (by decide) ?_
    refine g_icmp_ge C 33 dX5_gainCount_8 (by decide) (fun c_8 => ?_) (fun c_8 => ?_)
    · replace hw := hw.1 c_8
      refine g_iload_n C 1 dX5_gainCount_33 rfl rfl ?_
      exact g_iret C hr hlk hw dX5_gainCount_34
    · replace hw := hw.2 c_8
      refine g_iload_n C 1 dX5_gainCount_11 rfl rfl ?_
      refine g_aload_n C 0 dX5_gainCount_12 rfl rfl ?_
      refine g_iload_n C 2 dX5_gainCount_13 rfl rfl ?_
      refine g_callVi C (c_X5_gains l G hO hwin hw) kX5_gains tw_825 (Rv.of C (C.win (by decide) (by decide)) rfl (ci := 5) rfl) rfl rfl ⟨Nat.le_of_ble_eq_true rfl, Nat.le_of_ble_eq_true rfl⟩ (As := [.int x2]) (rest := [.int x1]) rfl rfl (Nat.le_of_ble_eq_true rfl) dX5_gainCount_14 ⟨Nat.le_of_ble_eq_true rfl, Nat.le_of_ble_eq_true rfl⟩ (fun r_2 s_1 hw => ?_)
      refine g_if_eq C 24 dX5_gainCount_17 (by decide) (fun c_7 => ?_) (fun c_7 => ?_)
      · replace hw := hw.1 c_7
        refine g_iconst C (0 : Int32) dX5_gainCount_24 (by decide) ?_
        refine g_iadd C dX5_gainCount_25 ?_
        refine g_topi (fun x1_3 ex1_3 => ?_)
        replace hw := hw x1_3 ex1_3
        refine g_istore_n C dX5_gainCount_26 rfl (by decide) (lv' := [(1, .int x1_3), (0, .ref (gh G 17)), (2, .int x2)]) rfl ?_
        obtain ⟨x2_4, ex2_4⟩ : ∃ z : Int32, z = x2 + (1 : Int32) := ⟨_, rfl⟩
        replace hw := hw x2_4 ex2_4
        refine g_iinc C x2_4 2 dX5_gainCount_27 rfl ex2_4.symm (by decide) (lv' := [(2, .int x2_4), (1, .int x1_3), (0, .ref (gh G 17))]) rfl ?_
        refine g_goto C 4 dX5_gainCount_30 (by decide) ?_
        rw [hP4] at hw
        exact g_perm [2, 1, 0] rfl (hw)
      · replace hw := hw.2 c_7
        refine g_iconst C (1 : Int32) dX5_gainCount_20 (by decide) ?_
        refine g_goto C 25 dX5_gainCount_21 (by decide) ?_
        refine g_iadd C dX5_gainCount_25 ?_
        refine g_topi (fun x1_5 ex1_5 => ?_)
        replace hw := hw x1_5 ex1_5
        refine g_istore_n C dX5_gainCount_26 rfl (by decide) (lv' := [(1, .int x1_5), (0, .ref (gh G 17)), (2, .int x2)]) rfl ?_
        obtain ⟨x2_6, ex2_6⟩ : ∃ z : Int32, z = x2 + (1 : Int32) := ⟨_, rfl⟩
        replace hw := hw x2_6 ex2_6
        refine g_iinc C x2_6 2 dX5_gainCount_27 rfl ex2_6.symm (by decide) (lv' := [(2, .int x2_6), (1, .int x1_5), (0, .ref (gh G 17))]) rfl ?_
        refine g_goto C 4 dX5_gainCount_30 (by decide) ?_
        rw [hP4] at hw
        exact g_perm [2, 1, 0] rfl (hw))
  refine g_iconst C (0 : Int32) dX5_gainCount_0 (by decide) ?_
  refine g_istore_n C dX5_gainCount_1 rfl (by decide) (lv' := [(1, .int (0 : Int32)), (0, .ref (gh G 17))]) rfl ?_
  refine g_iconst C (0 : Int32) dX5_gainCount_2 (by decide) ?_
  refine g_istore_n C dX5_gainCount_3 rfl (by decide) (lv' := [(2, .int (0 : Int32)), (1, .int (0 : Int32)), (0, .ref (gh G 17))]) rfl ?_
  rw [hP4] at hw
  exact g_perm [2, 1, 0] rfl (hw)

set_option maxHeartbeats 4000000 in
set_option maxRecDepth 100000 in
theorem c_X5_lossCount (l : Launch) (G : Gp) (hO : gOK G) (hwin : ∀ k, 17 ≤ k → k < 25 → k ∈ gks G)   {st : St} {Q : Int32 → St → Prop} (hw : wp_X5_lossCount  st Q) : MI l G yX5_lossCount cX5_lossCount 3 (some .int) { frames := 4, cells := 0, slots := 0, locals := 91 } [.ref (gh G 17)] st Q := by
  refine MI.of (own := RX5) (lo := 17) (hi := 25) hO hwin (by decide) rfl (Nat.le_of_ble_eq_true rfl) (fun p e s m args below meth c C hr hlk => ?_)
  refine g_lv (lv' := [(0, .ref (gh G 17))]) rfl ?_
  unfold wp_X5_lossCount at hw
  obtain ⟨P4, hP4⟩ : ∃ P : Int32 → Int32 → St → Prop, P = fun x1 x2 st => WG p l e ({ frames := 4, cells := 0, slots := 0, locals := 91 } : Room) s m args below meth c 0 0 (MQ below (va_Qi Q (gB G) (gA G)) args s 0 0 (gA G)) G 3 4 [(0, .ref (gh G 17)), (1, .int x1), (2, .int x2)] [] st := ⟨_, rfl⟩
  replace hw := hw P4
  replace hw := hw (by
    intro x1 x2 st hw
    rw [hP4]
    refine g_iload_n C 2 dX5_lossCount_4 rfl rfl ?_
    refine g_sipush C (1024 : Int32) dX5_lossCount_5 (by decide) ?_
    refine g_icmp_ge C 33 dX5_lossCount_8 (by decide) (fun c_8 => ?_) (fun c_8 => ?_)
    · replace hw := hw.1 c_8
      refine g_iload_n C 1 dX5_lossCount_33 rfl rfl ?_
      exact g_iret C hr hlk hw dX5_lossCount_34
    · replace hw := hw.2 c_8
      refine g_iload_n C 1 dX5_lossCount_11 rfl rfl ?_
      refine g_aload_n C 0 dX5_lossCount_12 rfl rfl ?_
      refine g_iload_n C 2 dX5_lossCount_13 rfl rfl ?_
      refine g_callVi C (c_X5_loses l G hO hwin hw) kX5_loses tw_833 (Rv.of C (C.win (by decide) (by decide)) rfl (ci := 5) rfl) rfl rfl ⟨Nat.le_of_ble_eq_true rfl, Nat.le_of_ble_eq_true rfl⟩ (As := [.int x2]) (rest := [.int x1]) rfl rfl (Nat.le_of_ble_eq_true rfl) dX5_lossCount_14 ⟨Nat.le_of_ble_eq_true rfl, Nat.le_of_ble_eq_true rfl⟩ (fun r_2 s_1 hw => ?_)
      refine g_if_eq C 24 dX5_lossCount_17 (by decide) (fun c_7 => ?_) (fun c_7 => ?_)
      · replace hw := hw.1 c_7
        refine g_iconst C (0 : Int32) dX5_lossCount_24 (by decide) ?_
        refine g_iadd C dX5_lossCount_25 ?_
        refine g_topi (fun x1_3 ex1_3 => ?_)
        replace hw := hw x1_3 ex1_3
        refine g_istore_n C dX5_lossCount_26 rfl (by decide) (lv' := [(1, .int x1_3), (0, .ref (gh G 17)), (2, .int x2)]) rfl ?_
        obtain ⟨x2_4, ex2_4⟩ : ∃ z : Int32, z = x2 + (1 : Int32) := ⟨_, rfl⟩
        replace hw := hw x2_4 ex2_4
        refine g_iinc C x2_4 2 dX5_lossCount_27 rfl ex2_4.symm (by decide) (lv' := [(2, .int x2_4), (1, .int x1_3), (0, .ref (gh G 17))]) rfl ?_
        refine g_goto C 4 dX5_lossCount_30 (by decide) ?_
        rw [hP4] at hw
        exact g_perm [2, 1, 0] rfl (hw)
      · replace hw := hw.2 c_7
        refine g_iconst C (1 : Int32) dX5_lossCount_20 (by decide) ?_
        refine g_goto C 25 dX5_lossCount_21 (by decide) ?_
        refine g_iadd C dX5_lossCount_25 ?_
        refine g_topi (fun x1_5 ex1_5 => ?_)
        replace hw := hw x1_5 ex1_5
        refine g_istore_n C dX5_lossCount_26 rfl (by decide) (lv' := [(1, .int x1_5), (0, .ref (gh G 17)), (2, .int x2)]) rfl ?_
        obtain ⟨x2_6, ex2_6⟩ : ∃ z : Int32, z = x2 + (1 : Int32) := ⟨_, rfl⟩
        replace hw := hw x2_6 ex2_6
        refine g_iinc C x2_6 2 dX5_lossCount_27 rfl ex2_6.symm (by decide) (lv' := [(2, .int x2_6), (1, .int x1_5), (0, .ref (gh G 17))]) rfl ?_
        refine g_goto C 4 dX5_lossCount_30 (by decide) ?_
        rw [hP4] at hw
        exact g_perm [2, 1, 0] rfl (hw))
  refine g_iconst C (0 : Int32) dX5_lossCount_0 (by decide) ?_
  refine g_istore_n C dX5_lossCount_1 rfl (by decide) (lv' := [(1, .int (0 : Int32)), (0, .ref (gh G 17))]) rfl ?_
  refine g_iconst C (0 : Int32) dX5_lossCount_2 (by decide) ?_
  refine g_istore_n C dX5_lossCount_3 rfl (by decide) (lv' := [(2, .int (0 : Int32)), (1, .int (0 : Int32)), (0, .ref (gh G 17))]) rfl ?_
  rw [hP4] at hw
  exact g_perm [2, 1, 0] rfl (hw)

set_option maxHeartbeats 4000000 in
set_option maxRecDepth 100000 in
theorem c_X5_gainCountOf (l : Launch) (G : Gp) (hO : gOK G) (hwin : ∀ k, 17 ≤ k → k < 25 → k ∈ gks G) {x1 : Int32} {x2 : Int32}  {st : St} {Q : Int32 → St → Prop} (hw : wp_X5_gainCountOf x1 x2 st Q) : MI l G yX5_gainCountOf cX5_gainCountOf 5 (some .int) { frames := 4, cells := 0, slots := 0, locals := 91 } [.ref (gh G 17), .int x1, .int x2] st Q := by
  refine MI.of (own := RX5) (lo := 17) (hi := 25) hO hwin (by decide) rfl (Nat.le_of_ble_eq_true rfl) (fun p e s m args below meth c C hr hlk => ?_)
  refine g_lv (lv' := [(0, .ref (gh G 17)), (1, .int x1), (2, .int x2)]) rfl ?_
  unfold wp_X5_gainCountOf at hw
  obtain ⟨P30, hP30⟩ : ∃ P : Int32 → Int32 → St → Prop, P = fun x3 x4 st => WG p l e ({ frames := 4, cells := 0, slots := 0, locals := 91 } : Room) s m args below meth c 0 0 (MQ below (va_Qi Q (gB G) (gA G)) args s 0 0 (gA G)) G 5 30 [(0, .ref (gh G 17)), (1, .int x1), (2, .int x2), (3, .int x3), (4, .int x4)] [] st := ⟨_, rfl⟩
  obtain ⟨P62, hP62⟩ : ∃ P : Int32 → Int32 → St → Prop, P = fun x4 y0 st => WG p l e ({ frames := 4, cells := 0, slots := 0, locals := 91 } : Room) s m args below meth c 0 0 (MQ below (va_Qi Q (gB G) (gA G)) args s 0 0 (gA G)) G 5 62 [(0, .ref (gh G 17)), (1, .int x1), (2, .int x2), (4, .int x4)] [.int y0] st := ⟨_, rfl⟩
  replace hw := hw P30 P62
  replace hw := hw (by
    intro x3 x4 st hw
    rw [hP30]
    refine g_iload C 4 dX5_gainCountOf_30 rfl ?_
    refine g_sipush C (1024 : Int32) dX5_gainCountOf_32 (by decide) ?_
    refine g_icmp_ge C 71 dX5_gainCountOf_35 (by decide) (fun c_9 => ?_) (fun c_9 => ?_)
    · replace hw := hw.1 c_9
      refine g_iload_n C 3 dX5_gainCountOf_71 rfl rfl ?_
      exact g_iret C hr hlk hw dX5_gainCountOf_72
    · replace hw := hw.2 c_9
      refine g_iload_n C 3 dX5_gainCountOf_38 rfl rfl ?_
      refine g_iload C 4 dX5_gainCountOf_39 rfl ?_
      refine g_iload_n C 1 dX5_gainCountOf_41 rfl rfl ?_
      refine g_callSi C (c_X5_partOf l G hO hwin hw) kX5_partOf tw_800 rfl rfl ⟨Nat.le_of_ble_eq_true rfl, Nat.le_of_ble_eq_true rfl⟩ (As := [.int x4, .int x1]) (rest := [.int x3]) rfl rfl (Nat.le_of_ble_eq_true rfl) dX5_gainCountOf_42 ⟨Nat.le_of_ble_eq_true rfl, Nat.le_of_ble_eq_true rfl⟩ (fun r_2 s_1 hw => ?_)
      refine g_iload_n C 2 dX5_gainCountOf_45 rfl rfl ?_
      refine g_icmp_ne C 62 dX5_gainCountOf_46 (by decide) (fun c_8 => ?_) (fun c_8 => ?_)
      · replace hw := hw.2 c_8
        rw [hP62] at hw
        exact g_perm [0, 1, 2, 4] rfl (hw)
      · replace hw := hw.1 c_8
        refine g_aload_n C 0 dX5_gainCountOf_49 rfl rfl ?_
        refine g_iload C 4 dX5_gainCountOf_50 rfl ?_
        refine g_callVi C (c_X5_gains l G hO hwin hw) kX5_gains tw_825 (Rv.of C (C.win (by decide) (by decide)) rfl (ci := 5) rfl) rfl rfl ⟨Nat.le_of_ble_eq_true rfl, Nat.le_of_ble_eq_true rfl⟩ (As := [.int x4]) (rest := [.int x3]) rfl rfl (Nat.le_of_ble_eq_true rfl) dX5_gainCountOf_52 ⟨Nat.le_of_ble_eq_true rfl, Nat.le_of_ble_eq_true rfl⟩ (fun r_4 s_3 hw => ?_)
        refine g_if_eq C 62 dX5_gainCountOf_55 (by decide) (fun c_7 => ?_) (fun c_7 => ?_)
        · replace hw := hw.1 c_7
          rw [hP62] at hw
          exact g_perm [0, 1, 2, 4] rfl (hw)
        · replace hw := hw.2 c_7
          refine g_iconst C (1 : Int32) dX5_gainCountOf_58 (by decide) ?_
          refine g_goto C 63 dX5_gainCountOf_59 (by decide) ?_
          refine g_iadd C dX5_gainCountOf_63 ?_
          refine g_topi (fun x3_5 ex3_5 => ?_)
          replace hw := hw x3_5 ex3_5
          refine g_istore_n C dX5_gainCountOf_64 rfl (by decide) (lv' := [(3, .int x3_5), (0, .ref (gh G 17)), (1, .int x1), (2, .int x2), (4, .int x4)]) rfl ?_
          obtain ⟨x4_6, ex4_6⟩ : ∃ z : Int32, z = x4 + (1 : Int32) := ⟨_, rfl⟩
          replace hw := hw x4_6 ex4_6
          refine g_iinc C x4_6 4 dX5_gainCountOf_65 rfl ex4_6.symm (by decide) (lv' := [(4, .int x4_6), (3, .int x3_5), (0, .ref (gh G 17)), (1, .int x1), (2, .int x2)]) rfl ?_
          refine g_goto C 30 dX5_gainCountOf_68 (by decide) ?_
          rw [hP30] at hw
          exact g_perm [2, 3, 4, 1, 0] rfl (hw))
  replace hw := hw (by
    intro x4 y0 st hw
    rw [hP62]
    refine g_iconst C (0 : Int32) dX5_gainCountOf_62 (by decide) ?_
    refine g_iadd C dX5_gainCountOf_63 ?_
    refine g_topi (fun x3_10 ex3_10 => ?_)
    replace hw := hw x3_10 ex3_10
    refine g_istore_n C dX5_gainCountOf_64 rfl (by decide) (lv' := [(3, .int x3_10), (0, .ref (gh G 17)), (1, .int x1), (2, .int x2), (4, .int x4)]) rfl ?_
    obtain ⟨x4_11, ex4_11⟩ : ∃ z : Int32, z = x4 + (1 : Int32) := ⟨_, rfl⟩
    replace hw := hw x4_11 ex4_11
    refine g_iinc C x4_11 4 dX5_gainCountOf_65 rfl ex4_11.symm (by decide) (lv' := [(4, .int x4_11), (3, .int x3_10), (0, .ref (gh G 17)), (1, .int x1), (2, .int x2)]) rfl ?_
    refine g_goto C 30 dX5_gainCountOf_68 (by decide) ?_
    rw [hP30] at hw
    exact g_perm [2, 3, 4, 1, 0] rfl (hw))
  refine g_iload_n C 1 dX5_gainCountOf_0 rfl rfl ?_
  refine g_iconst C (0 : Int32) dX5_gainCountOf_1 (by decide) ?_
  refine g_iconst C (3 : Int32) dX5_gainCountOf_2 (by decide) ?_
  refine g_callSi C (c_X5_in l G hO hwin hw) kX5_in tw_661 rfl rfl ⟨Nat.le_of_ble_eq_true rfl, Nat.le_of_ble_eq_true rfl⟩ (As := [.int x1, .int (0 : Int32), .int (3 : Int32)]) (rest := []) rfl rfl (Nat.le_of_ble_eq_true rfl) dX5_gainCountOf_3 ⟨Nat.le_of_ble_eq_true rfl, Nat.le_of_ble_eq_true rfl⟩ (fun r_13 s_12 hw => ?_)
  refine g_if_eq C 23 dX5_gainCountOf_6 (by decide) (fun c_19 => ?_) (fun c_19 => ?_)
  · replace hw := hw.1 c_19
    refine g_iconst C (-1 : Int32) dX5_gainCountOf_23 (by decide) ?_
    exact g_iret C hr hlk hw dX5_gainCountOf_24
  · replace hw := hw.2 c_19
    refine g_iload_n C 2 dX5_gainCountOf_9 rfl rfl ?_
    refine g_iconst C (0 : Int32) dX5_gainCountOf_10 (by decide) ?_
    refine g_iload_n C 1 dX5_gainCountOf_11 rfl rfl ?_
    refine g_callSi C (c_X5_valuesOf l G hO hwin hw) kX5_valuesOf tw_688 rfl rfl ⟨Nat.le_of_ble_eq_true rfl, Nat.le_of_ble_eq_true rfl⟩ (As := [.int x1]) (rest := [.int (0 : Int32), .int x2]) rfl rfl (Nat.le_of_ble_eq_true rfl) dX5_gainCountOf_12 ⟨Nat.le_of_ble_eq_true rfl, Nat.le_of_ble_eq_true rfl⟩ (fun r_15 s_14 hw => ?_)
    refine g_iconst C (1 : Int32) dX5_gainCountOf_15 (by decide) ?_
    refine g_isub C dX5_gainCountOf_16 ?_
    refine g_callSi C (c_X5_in l G hO hwin hw) kX5_in tw_661 rfl rfl ⟨Nat.le_of_ble_eq_true rfl, Nat.le_of_ble_eq_true rfl⟩ (As := [.int x2, .int (0 : Int32), .int (r_15 - (1 : Int32))]) (rest := []) rfl rfl (Nat.le_of_ble_eq_true rfl) dX5_gainCountOf_17 ⟨Nat.le_of_ble_eq_true rfl, Nat.le_of_ble_eq_true rfl⟩ (fun r_17 s_16 hw => ?_)
    refine g_if_ne C 25 dX5_gainCountOf_20 (by decide) (fun c_18 => ?_) (fun c_18 => ?_)
    · replace hw := hw.2 c_18
      refine g_iconst C (0 : Int32) dX5_gainCountOf_25 (by decide) ?_
      refine g_istore_n C dX5_gainCountOf_26 rfl (by decide) (lv' := [(3, .int (0 : Int32)), (0, .ref (gh G 17)), (1, .int x1), (2, .int x2)]) rfl ?_
      refine g_iconst C (0 : Int32) dX5_gainCountOf_27 (by decide) ?_
      refine g_istore C dX5_gainCountOf_28 (by decide) (lv' := [(4, .int (0 : Int32)), (3, .int (0 : Int32)), (0, .ref (gh G 17)), (1, .int x1), (2, .int x2)]) rfl ?_
      rw [hP30] at hw
      exact g_perm [2, 3, 4, 1, 0] rfl (hw)
    · replace hw := hw.1 c_18
      refine g_iconst C (-1 : Int32) dX5_gainCountOf_23 (by decide) ?_
      exact g_iret C hr hlk hw dX5_gainCountOf_24

set_option maxHeartbeats 4000000 in
set_option maxRecDepth 100000 in
theorem c_X5_nextGain (l : Launch) (G : Gp) (hO : gOK G) (hwin : ∀ k, 17 ≤ k → k < 25 → k ∈ gks G) {x1 : Int32}  {st : St} {Q : Int32 → St → Prop} (hw : wp_X5_nextGain x1 st Q) : MI l G yX5_nextGain cX5_nextGain 3 (some .int) { frames := 4, cells := 0, slots := 0, locals := 91 } [.ref (gh G 17), .int x1] st Q := by
  refine MI.of (own := RX5) (lo := 17) (hi := 25) hO hwin (by decide) rfl (Nat.le_of_ble_eq_true rfl) (fun p e s m args below meth c C hr hlk => ?_)
  refine g_lv (lv' := [(0, .ref (gh G 17)), (1, .int x1)]) rfl ?_
  unfold wp_X5_nextGain at hw
  obtain ⟨P11, hP11⟩ : ∃ P : Int32 → St → Prop, P = fun x2 st => WG p l e ({ frames := 4, cells := 0, slots := 0, locals := 91 } : Room) s m args below meth c 0 0 (MQ below (va_Qi Q (gB G) (gA G)) args s 0 0 (gA G)) G 3 11 [(0, .ref (gh G 17)), (1, .int x1), (2, .int x2)] [] st := ⟨_, rfl⟩
  obtain ⟨P32, hP32⟩ : ∃ P : Int32 → St → Prop, P = fun x2 st => WG p l e ({ frames := 4, cells := 0, slots := 0, locals := 91 } : Room) s m args below meth c 0 0 (MQ below (va_Qi Q (gB G) (gA G)) args s 0 0 (gA G)) G 3 32 [(0, .ref (gh G 17)), (1, .int x1), (2, .int x2)] [] st := ⟨_, rfl⟩
  replace hw := hw P11 P32
  replace hw := hw (by
    intro x2 st hw
    rw [hP11]
    refine g_iload_n C 2 dX5_nextGain_11 rfl rfl ?_
    refine g_sipush C (1024 : Int32) dX5_nextGain_12 (by decide) ?_
    refine g_icmp_ge C 32 dX5_nextGain_15 (by decide) (fun c_5 => ?_) (fun c_5 => ?_)
    · replace hw := hw.1 c_5
      rw [hP32] at hw
      exact g_perm [0, 1, 2] rfl (hw)
    · replace hw := hw.2 c_5
      refine g_aload_n C 0 dX5_nextGain_18 rfl rfl ?_
      refine g_iload_n C 2 dX5_nextGain_19 rfl rfl ?_
      refine g_callVi C (c_X5_gains l G hO hwin hw) kX5_gains tw_825 (Rv.of C (C.win (by decide) (by decide)) rfl (ci := 5) rfl) rfl rfl ⟨Nat.le_of_ble_eq_true rfl, Nat.le_of_ble_eq_true rfl⟩ (As := [.int x2]) (rest := []) rfl rfl (Nat.le_of_ble_eq_true rfl) dX5_nextGain_20 ⟨Nat.le_of_ble_eq_true rfl, Nat.le_of_ble_eq_true rfl⟩ (fun r_2 s_1 hw => ?_)
      refine g_if_ne C 32 dX5_nextGain_23 (by decide) (fun c_4 => ?_) (fun c_4 => ?_)
      · replace hw := hw.2 c_4
        rw [hP32] at hw
        exact g_perm [0, 1, 2] rfl (hw)
      · replace hw := hw.1 c_4
        obtain ⟨x2_3, ex2_3⟩ : ∃ z : Int32, z = x2 + (1 : Int32) := ⟨_, rfl⟩
        replace hw := hw x2_3 ex2_3
        refine g_iinc C x2_3 2 dX5_nextGain_26 rfl ex2_3.symm (by decide) (lv' := [(2, .int x2_3), (0, .ref (gh G 17)), (1, .int x1)]) rfl ?_
        refine g_goto C 11 dX5_nextGain_29 (by decide) ?_
        rw [hP11] at hw
        exact g_perm [1, 2, 0] rfl (hw))
  replace hw := hw (by
    intro x2 st hw
    rw [hP32]
    refine g_iload_n C 2 dX5_nextGain_32 rfl rfl ?_
    refine g_sipush C (1024 : Int32) dX5_nextGain_33 (by decide) ?_
    refine g_icmp_ge C 43 dX5_nextGain_36 (by decide) (fun c_6 => ?_) (fun c_6 => ?_)
    · replace hw := hw.1 c_6
      refine g_bipush C (-4 : Int32) dX5_nextGain_43 (by decide) ?_
      exact g_iret C hr hlk hw dX5_nextGain_45
    · replace hw := hw.2 c_6
      refine g_iload_n C 2 dX5_nextGain_39 rfl rfl ?_
      refine g_goto C 45 dX5_nextGain_40 (by decide) ?_
      exact g_iret C hr hlk hw dX5_nextGain_45)
  refine g_iload_n C 1 dX5_nextGain_0 rfl rfl ?_
  refine g_callSi C (c_X5_isRequest l G hO hwin hw) kX5_isRequest tw_789 rfl rfl ⟨Nat.le_of_ble_eq_true rfl, Nat.le_of_ble_eq_true rfl⟩ (As := [.int x1]) (rest := []) rfl rfl (Nat.le_of_ble_eq_true rfl) dX5_nextGain_1 ⟨Nat.le_of_ble_eq_true rfl, Nat.le_of_ble_eq_true rfl⟩ (fun r_8 s_7 hw => ?_)
  refine g_if_ne C 9 dX5_nextGain_4 (by decide) (fun c_9 => ?_) (fun c_9 => ?_)
  · replace hw := hw.2 c_9
    refine g_iload_n C 1 dX5_nextGain_9 rfl rfl ?_
    refine g_istore_n C dX5_nextGain_10 rfl (by decide) (lv' := [(2, .int x1), (0, .ref (gh G 17)), (1, .int x1)]) rfl ?_
    rw [hP11] at hw
    exact g_perm [1, 2, 0] rfl (hw)
  · replace hw := hw.1 c_9
    refine g_iconst C (-1 : Int32) dX5_nextGain_7 (by decide) ?_
    exact g_iret C hr hlk hw dX5_nextGain_8

set_option maxHeartbeats 4000000 in
set_option maxRecDepth 100000 in
theorem c_X5_nextLoss (l : Launch) (G : Gp) (hO : gOK G) (hwin : ∀ k, 17 ≤ k → k < 25 → k ∈ gks G) {x1 : Int32}  {st : St} {Q : Int32 → St → Prop} (hw : wp_X5_nextLoss x1 st Q) : MI l G yX5_nextLoss cX5_nextLoss 3 (some .int) { frames := 4, cells := 0, slots := 0, locals := 91 } [.ref (gh G 17), .int x1] st Q := by
  refine MI.of (own := RX5) (lo := 17) (hi := 25) hO hwin (by decide) rfl (Nat.le_of_ble_eq_true rfl) (fun p e s m args below meth c C hr hlk => ?_)
  refine g_lv (lv' := [(0, .ref (gh G 17)), (1, .int x1)]) rfl ?_
  unfold wp_X5_nextLoss at hw
  obtain ⟨P11, hP11⟩ : ∃ P : Int32 → St → Prop, P = fun x2 st => WG p l e ({ frames := 4, cells := 0, slots := 0, locals := 91 } : Room) s m args below meth c 0 0 (MQ below (va_Qi Q (gB G) (gA G)) args s 0 0 (gA G)) G 3 11 [(0, .ref (gh G 17)), (1, .int x1), (2, .int x2)] [] st := ⟨_, rfl⟩
  obtain ⟨P32, hP32⟩ : ∃ P : Int32 → St → Prop, P = fun x2 st => WG p l e ({ frames := 4, cells := 0, slots := 0, locals := 91 } : Room) s m args below meth c 0 0 (MQ below (va_Qi Q (gB G) (gA G)) args s 0 0 (gA G)) G 3 32 [(0, .ref (gh G 17)), (1, .int x1), (2, .int x2)] [] st := ⟨_, rfl⟩
  replace hw := hw P11 P32
  replace hw := hw (by
    intro x2 st hw
    rw [hP11]
    refine g_iload_n C 2 dX5_nextLoss_11 rfl rfl ?_
    refine g_sipush C (1024 : Int32) dX5_nextLoss_12 (by decide) ?_
    refine g_icmp_ge C 32 dX5_nextLoss_15 (by decide) (fun c_5 => ?_) (fun c_5 => ?_)
    · replace hw := hw.1 c_5
      rw [hP32] at hw
      exact g_perm [0, 1, 2] rfl (hw)
    · replace hw := hw.2 c_5
      refine g_aload_n C 0 dX5_nextLoss_18 rfl rfl ?_
      refine g_iload_n C 2 dX5_nextLoss_19 rfl rfl ?_
      refine g_callVi C (c_X5_loses l G hO hwin hw) kX5_loses tw_833 (Rv.of C (C.win (by decide) (by decide)) rfl (ci := 5) rfl) rfl rfl ⟨Nat.le_of_ble_eq_true rfl, Nat.le_of_ble_eq_true rfl⟩ (As := [.int x2]) (rest := []) rfl rfl (Nat.le_of_ble_eq_true rfl) dX5_nextLoss_20 ⟨Nat.le_of_ble_eq_true rfl, Nat.le_of_ble_eq_true rfl⟩ (fun r_2 s_1 hw => ?_)
      refine g_if_ne C 32 dX5_nextLoss_23 (by decide) (fun c_4 => ?_) (fun c_4 => ?_)
      · replace hw := hw.2 c_4
        rw [hP32] at hw
        exact g_perm [0, 1, 2] rfl (hw)
      · replace hw := hw.1 c_4
        obtain ⟨x2_3, ex2_3⟩ : ∃ z : Int32, z = x2 + (1 : Int32) := ⟨_, rfl⟩
        replace hw := hw x2_3 ex2_3
        refine g_iinc C x2_3 2 dX5_nextLoss_26 rfl ex2_3.symm (by decide) (lv' := [(2, .int x2_3), (0, .ref (gh G 17)), (1, .int x1)]) rfl ?_
        refine g_goto C 11 dX5_nextLoss_29 (by decide) ?_
        rw [hP11] at hw
        exact g_perm [1, 2, 0] rfl (hw))
  replace hw := hw (by
    intro x2 st hw
    rw [hP32]
    refine g_iload_n C 2 dX5_nextLoss_32 rfl rfl ?_
    refine g_sipush C (1024 : Int32) dX5_nextLoss_33 (by decide) ?_
    refine g_icmp_ge C 43 dX5_nextLoss_36 (by decide) (fun c_6 => ?_) (fun c_6 => ?_)
    · replace hw := hw.1 c_6
      refine g_bipush C (-4 : Int32) dX5_nextLoss_43 (by decide) ?_
      exact g_iret C hr hlk hw dX5_nextLoss_45
    · replace hw := hw.2 c_6
      refine g_iload_n C 2 dX5_nextLoss_39 rfl rfl ?_
      refine g_goto C 45 dX5_nextLoss_40 (by decide) ?_
      exact g_iret C hr hlk hw dX5_nextLoss_45)
  refine g_iload_n C 1 dX5_nextLoss_0 rfl rfl ?_
  refine g_callSi C (c_X5_isRequest l G hO hwin hw) kX5_isRequest tw_789 rfl rfl ⟨Nat.le_of_ble_eq_true rfl, Nat.le_of_ble_eq_true rfl⟩ (As := [.int x1]) (rest := []) rfl rfl (Nat.le_of_ble_eq_true rfl) dX5_nextLoss_1 ⟨Nat.le_of_ble_eq_true rfl, Nat.le_of_ble_eq_true rfl⟩ (fun r_8 s_7 hw => ?_)
  refine g_if_ne C 9 dX5_nextLoss_4 (by decide) (fun c_9 => ?_) (fun c_9 => ?_)
  · replace hw := hw.2 c_9
    refine g_iload_n C 1 dX5_nextLoss_9 rfl rfl ?_
    refine g_istore_n C dX5_nextLoss_10 rfl (by decide) (lv' := [(2, .int x1), (0, .ref (gh G 17)), (1, .int x1)]) rfl ?_
    rw [hP11] at hw
    exact g_perm [1, 2, 0] rfl (hw)
  · replace hw := hw.1 c_9
    refine g_iconst C (-1 : Int32) dX5_nextLoss_7 (by decide) ?_
    exact g_iret C hr hlk hw dX5_nextLoss_8

set_option maxHeartbeats 4000000 in
set_option maxRecDepth 100000 in
theorem c_X5_transitionCount (l : Launch) (G : Gp) (hO : gOK G) (hwin : ∀ k, 17 ≤ k → k < 25 → k ∈ gks G) {x1 : Int32} {x2 : Int32}  {st : St} {Q : Int32 → St → Prop} (hw : wp_X5_transitionCount x1 x2 st Q) : MI l G yX5_transitionCount cX5_transitionCount 5 (some .int) { frames := 3, cells := 0, slots := 0, locals := 70 } [.ref (gh G 17), .int x1, .int x2] st Q := by
  refine MI.of (own := RX5) (lo := 17) (hi := 25) hO hwin (by decide) rfl (Nat.le_of_ble_eq_true rfl) (fun p e s m args below meth c C hr hlk => ?_)
  refine g_lv (lv' := [(0, .ref (gh G 17)), (1, .int x1), (2, .int x2)]) rfl ?_
  unfold wp_X5_transitionCount at hw
  obtain ⟨P25, hP25⟩ : ∃ P : Int32 → Int32 → St → Prop, P = fun x3 x4 st => WG p l e ({ frames := 3, cells := 0, slots := 0, locals := 70 } : Room) s m args below meth c 0 0 (MQ below (va_Qi Q (gB G) (gA G)) args s 0 0 (gA G)) G 5 25 [(0, .ref (gh G 17)), (1, .int x1), (2, .int x2), (3, .int x3), (4, .int x4)] [] st := ⟨_, rfl⟩
  obtain ⟨P60, hP60⟩ : ∃ P : Int32 → Int32 → St → Prop, P = fun x4 y0 st => WG p l e ({ frames := 3, cells := 0, slots := 0, locals := 70 } : Room) s m args below meth c 0 0 (MQ below (va_Qi Q (gB G) (gA G)) args s 0 0 (gA G)) G 5 60 [(0, .ref (gh G 17)), (1, .int x1), (2, .int x2), (4, .int x4)] [.int y0] st := ⟨_, rfl⟩
  replace hw := hw P25 P60
  replace hw := hw (by
    intro x3 x4 st hw
    rw [hP25]
    refine g_iload C 4 dX5_transitionCount_25 rfl ?_
    refine g_sipush C (1024 : Int32) dX5_transitionCount_27 (by decide) ?_
    refine g_icmp_ge C 69 dX5_transitionCount_30 (by decide) (fun c_9 => ?_) (fun c_9 => ?_)
    · replace hw := hw.1 c_9
      refine g_iload_n C 3 dX5_transitionCount_69 rfl rfl ?_
      exact g_iret C hr hlk hw dX5_transitionCount_70
    · replace hw := hw.2 c_9
      refine g_iload_n C 3 dX5_transitionCount_33 rfl rfl ?_
      refine g_aload_n C 0 dX5_transitionCount_34 rfl rfl ?_
      refine g_iconst C (0 : Int32) dX5_transitionCount_35 (by decide) ?_
      refine g_iload C 4 dX5_transitionCount_36 rfl ?_
      refine g_callVi C (c_X5_decision l G hO hwin hw) kX5_decision tw_792 (Rv.of C (C.win (by decide) (by decide)) rfl (ci := 5) rfl) rfl rfl ⟨Nat.le_of_ble_eq_true rfl, Nat.le_of_ble_eq_true rfl⟩ (As := [.int (0 : Int32), .int x4]) (rest := [.int x3]) rfl rfl (Nat.le_of_ble_eq_true rfl) dX5_transitionCount_38 ⟨Nat.le_of_ble_eq_true rfl, Nat.le_of_ble_eq_true rfl⟩ (fun r_2 s_1 hw => ?_)
      refine g_iload_n C 1 dX5_transitionCount_41 rfl rfl ?_
      refine g_icmp_ne C 60 dX5_transitionCount_42 (by decide) (fun c_8 => ?_) (fun c_8 => ?_)
      · replace hw := hw.2 c_8
        rw [hP60] at hw
        exact g_perm [0, 1, 2, 4] rfl (hw)
      · replace hw := hw.1 c_8
        refine g_aload_n C 0 dX5_transitionCount_45 rfl rfl ?_
        refine g_iconst C (1 : Int32) dX5_transitionCount_46 (by decide) ?_
        refine g_iload C 4 dX5_transitionCount_47 rfl ?_
        refine g_callVi C (c_X5_decision l G hO hwin hw) kX5_decision tw_792 (Rv.of C (C.win (by decide) (by decide)) rfl (ci := 5) rfl) rfl rfl ⟨Nat.le_of_ble_eq_true rfl, Nat.le_of_ble_eq_true rfl⟩ (As := [.int (1 : Int32), .int x4]) (rest := [.int x3]) rfl rfl (Nat.le_of_ble_eq_true rfl) dX5_transitionCount_49 ⟨Nat.le_of_ble_eq_true rfl, Nat.le_of_ble_eq_true rfl⟩ (fun r_4 s_3 hw => ?_)
        refine g_iload_n C 2 dX5_transitionCount_52 rfl rfl ?_
        refine g_icmp_ne C 60 dX5_transitionCount_53 (by decide) (fun c_7 => ?_) (fun c_7 => ?_)
        · replace hw := hw.2 c_7
          rw [hP60] at hw
          exact g_perm [0, 1, 2, 4] rfl (hw)
        · replace hw := hw.1 c_7
          refine g_iconst C (1 : Int32) dX5_transitionCount_56 (by decide) ?_
          refine g_goto C 61 dX5_transitionCount_57 (by decide) ?_
          refine g_iadd C dX5_transitionCount_61 ?_
          refine g_topi (fun x3_5 ex3_5 => ?_)
          replace hw := hw x3_5 ex3_5
          refine g_istore_n C dX5_transitionCount_62 rfl (by decide) (lv' := [(3, .int x3_5), (0, .ref (gh G 17)), (1, .int x1), (2, .int x2), (4, .int x4)]) rfl ?_
          obtain ⟨x4_6, ex4_6⟩ : ∃ z : Int32, z = x4 + (1 : Int32) := ⟨_, rfl⟩
          replace hw := hw x4_6 ex4_6
          refine g_iinc C x4_6 4 dX5_transitionCount_63 rfl ex4_6.symm (by decide) (lv' := [(4, .int x4_6), (3, .int x3_5), (0, .ref (gh G 17)), (1, .int x1), (2, .int x2)]) rfl ?_
          refine g_goto C 25 dX5_transitionCount_66 (by decide) ?_
          rw [hP25] at hw
          exact g_perm [2, 3, 4, 1, 0] rfl (hw))
  replace hw := hw (by
    intro x4 y0 st hw
    rw [hP60]
    refine g_iconst C (0 : Int32) dX5_transitionCount_60 (by decide) ?_
    refine g_iadd C dX5_transitionCount_61 ?_
    refine g_topi (fun x3_10 ex3_10 => ?_)
    replace hw := hw x3_10 ex3_10
    refine g_istore_n C dX5_transitionCount_62 rfl (by decide) (lv' := [(3, .int x3_10), (0, .ref (gh G 17)), (1, .int x1), (2, .int x2), (4, .int x4)]) rfl ?_
    obtain ⟨x4_11, ex4_11⟩ : ∃ z : Int32, z = x4 + (1 : Int32) := ⟨_, rfl⟩
    replace hw := hw x4_11 ex4_11
    refine g_iinc C x4_11 4 dX5_transitionCount_63 rfl ex4_11.symm (by decide) (lv' := [(4, .int x4_11), (3, .int x3_10), (0, .ref (gh G 17)), (1, .int x1), (2, .int x2)]) rfl ?_
    refine g_goto C 25 dX5_transitionCount_66 (by decide) ?_
    rw [hP25] at hw
    exact g_perm [2, 3, 4, 1, 0] rfl (hw))
  refine g_iload_n C 1 dX5_transitionCount_0 rfl rfl ?_
  refine g_iconst C (0 : Int32) dX5_transitionCount_1 (by decide) ?_
  refine g_iconst C (3 : Int32) dX5_transitionCount_2 (by decide) ?_
  refine g_callSi C (c_X5_in l G hO hwin hw) kX5_in tw_661 rfl rfl ⟨Nat.le_of_ble_eq_true rfl, Nat.le_of_ble_eq_true rfl⟩ (As := [.int x1, .int (0 : Int32), .int (3 : Int32)]) (rest := []) rfl rfl (Nat.le_of_ble_eq_true rfl) dX5_transitionCount_3 ⟨Nat.le_of_ble_eq_true rfl, Nat.le_of_ble_eq_true rfl⟩ (fun r_13 s_12 hw => ?_)
  refine g_if_eq C 18 dX5_transitionCount_6 (by decide) (fun c_17 => ?_) (fun c_17 => ?_)
  · replace hw := hw.1 c_17
    refine g_iconst C (-1 : Int32) dX5_transitionCount_18 (by decide) ?_
    exact g_iret C hr hlk hw dX5_transitionCount_19
  · replace hw := hw.2 c_17
    refine g_iload_n C 2 dX5_transitionCount_9 rfl rfl ?_
    refine g_iconst C (0 : Int32) dX5_transitionCount_10 (by decide) ?_
    refine g_iconst C (3 : Int32) dX5_transitionCount_11 (by decide) ?_
    refine g_callSi C (c_X5_in l G hO hwin hw) kX5_in tw_661 rfl rfl ⟨Nat.le_of_ble_eq_true rfl, Nat.le_of_ble_eq_true rfl⟩ (As := [.int x2, .int (0 : Int32), .int (3 : Int32)]) (rest := []) rfl rfl (Nat.le_of_ble_eq_true rfl) dX5_transitionCount_12 ⟨Nat.le_of_ble_eq_true rfl, Nat.le_of_ble_eq_true rfl⟩ (fun r_15 s_14 hw => ?_)
    refine g_if_ne C 20 dX5_transitionCount_15 (by decide) (fun c_16 => ?_) (fun c_16 => ?_)
    · replace hw := hw.2 c_16
      refine g_iconst C (0 : Int32) dX5_transitionCount_20 (by decide) ?_
      refine g_istore_n C dX5_transitionCount_21 rfl (by decide) (lv' := [(3, .int (0 : Int32)), (0, .ref (gh G 17)), (1, .int x1), (2, .int x2)]) rfl ?_
      refine g_iconst C (0 : Int32) dX5_transitionCount_22 (by decide) ?_
      refine g_istore C dX5_transitionCount_23 (by decide) (lv' := [(4, .int (0 : Int32)), (3, .int (0 : Int32)), (0, .ref (gh G 17)), (1, .int x1), (2, .int x2)]) rfl ?_
      rw [hP25] at hw
      exact g_perm [2, 3, 4, 1, 0] rfl (hw)
    · replace hw := hw.1 c_16
      refine g_iconst C (-1 : Int32) dX5_transitionCount_18 (by decide) ?_
      exact g_iret C hr hlk hw dX5_transitionCount_19

set_option maxHeartbeats 4000000 in
set_option maxRecDepth 100000 in
theorem c_X5_grantedShareBits (l : Launch) (G : Gp) (hO : gOK G) (hwin : ∀ k, 17 ≤ k → k < 25 → k ∈ gks G) {x1 : Int32}  {st : St} {Q : Int32 → St → Prop} (hw : wp_X5_grantedShareBits x1 st Q) : MI l G yX5_grantedShareBits cX5_grantedShareBits 4 (some .int) { frames := 4, cells := 0, slots := 0, locals := 94 } [.ref (gh G 17), .int x1] st Q := by
  refine MI.of (own := RX5) (lo := 17) (hi := 25) hO hwin (by decide) rfl (Nat.le_of_ble_eq_true rfl) (fun p e s m args below meth c C hr hlk => ?_)
  refine g_lv (lv' := [(0, .ref (gh G 17)), (1, .int x1)]) rfl ?_
  unfold wp_X5_grantedShareBits at hw
  obtain ⟨P24, hP24⟩ : ∃ P : Int32 → Int32 → St → Prop, P = fun x2 x3 st => WG p l e ({ frames := 4, cells := 0, slots := 0, locals := 94 } : Room) s m args below meth c 0 0 (MQ below (va_Qi Q (gB G) (gA G)) args s 0 0 (gA G)) G 4 24 [(0, .ref (gh G 17)), (1, .int x1), (2, .int x2), (3, .int x3)] [] st := ⟨_, rfl⟩
  replace hw := hw P24
  replace hw := hw (by
    intro x2 x3 st hw
    rw [hP24]
    refine g_iload_n C 2 dX5_grantedShareBits_24 rfl rfl ?_
    refine g_iload_n C 3 dX5_grantedShareBits_25 rfl rfl ?_
    refine g_ishr C dX5_grantedShareBits_26 ?_
    refine g_iconst C (1 : Int32) dX5_grantedShareBits_27 (by decide) ?_
    refine g_icmp_le C 37 dX5_grantedShareBits_28 (by decide) (fun c_2 => ?_) (fun c_2 => ?_)
    · replace hw := hw.1 c_2
      refine g_bipush C (127 : Int32) dX5_grantedShareBits_37 (by decide) ?_
      refine g_iload_n C 3 dX5_grantedShareBits_39 rfl rfl ?_
      refine g_iadd C dX5_grantedShareBits_40 ?_
      refine g_bipush C (10 : Int32) dX5_grantedShareBits_41 (by decide) ?_
      refine g_isub C dX5_grantedShareBits_43 ?_
      refine g_bipush C (23 : Int32) dX5_grantedShareBits_44 (by decide) ?_
      refine g_ishl C dX5_grantedShareBits_46 ?_
      refine g_iload_n C 2 dX5_grantedShareBits_47 rfl rfl ?_
      refine g_iconst C (1 : Int32) dX5_grantedShareBits_48 (by decide) ?_
      refine g_iload_n C 3 dX5_grantedShareBits_49 rfl rfl ?_
      refine g_ishl C dX5_grantedShareBits_50 ?_
      refine g_ixor C dX5_grantedShareBits_51 ?_
      refine g_bipush C (23 : Int32) dX5_grantedShareBits_52 (by decide) ?_
      refine g_iload_n C 3 dX5_grantedShareBits_54 rfl rfl ?_
      refine g_isub C dX5_grantedShareBits_55 ?_
      refine g_ishl C dX5_grantedShareBits_56 ?_
      refine g_ior C dX5_grantedShareBits_57 ?_
      exact g_iret C hr hlk hw dX5_grantedShareBits_58
    · replace hw := hw.2 c_2
      obtain ⟨x3_1, ex3_1⟩ : ∃ z : Int32, z = x3 + (1 : Int32) := ⟨_, rfl⟩
      replace hw := hw x3_1 ex3_1
      refine g_iinc C x3_1 3 dX5_grantedShareBits_31 rfl ex3_1.symm (by decide) (lv' := [(3, .int x3_1), (0, .ref (gh G 17)), (1, .int x1), (2, .int x2)]) rfl ?_
      refine g_goto C 24 dX5_grantedShareBits_34 (by decide) ?_
      rw [hP24] at hw
      exact g_perm [1, 2, 3, 0] rfl (hw))
  refine g_iload_n C 1 dX5_grantedShareBits_0 rfl rfl ?_
  refine g_callSi C (c_X5_isPolicy l G hO hwin hw) kX5_isPolicy tw_726 rfl rfl ⟨Nat.le_of_ble_eq_true rfl, Nat.le_of_ble_eq_true rfl⟩ (As := [.int x1]) (rest := []) rfl rfl (Nat.le_of_ble_eq_true rfl) dX5_grantedShareBits_1 ⟨Nat.le_of_ble_eq_true rfl, Nat.le_of_ble_eq_true rfl⟩ (fun r_4 s_3 hw => ?_)
  refine g_if_ne C 9 dX5_grantedShareBits_4 (by decide) (fun c_8 => ?_) (fun c_8 => ?_)
  · replace hw := hw.2 c_8
    refine g_aload_n C 0 dX5_grantedShareBits_9 rfl rfl ?_
    refine g_iload_n C 1 dX5_grantedShareBits_10 rfl rfl ?_
    refine g_iconst C (0 : Int32) dX5_grantedShareBits_11 (by decide) ?_
    refine g_callVi C (c_X5_decisionCount l G hO hwin hw) kX5_decisionCount tw_857 (Rv.of C (C.win (by decide) (by decide)) rfl (ci := 5) rfl) rfl rfl ⟨Nat.le_of_ble_eq_true rfl, Nat.le_of_ble_eq_true rfl⟩ (As := [.int x1, .int (0 : Int32)]) (rest := []) rfl rfl (Nat.le_of_ble_eq_true rfl) dX5_grantedShareBits_12 ⟨Nat.le_of_ble_eq_true rfl, Nat.le_of_ble_eq_true rfl⟩ (fun r_6 s_5 hw => ?_)
    refine g_istore_n C dX5_grantedShareBits_15 rfl (by decide) (lv' := [(2, .int r_6), (0, .ref (gh G 17)), (1, .int x1)]) rfl ?_
    refine g_iload_n C 0 dX5_grantedShareBits_16 rfl rfl ?_
    refine g_if_ne C 22 dX5_grantedShareBits_17 (by decide) (fun c_7 => ?_) (fun c_7 => ?_)
    · replace hw := hw.2 c_7
      refine g_iconst C (0 : Int32) dX5_grantedShareBits_22 (by decide) ?_
      refine g_istore_n C dX5_grantedShareBits_23 rfl (by decide) (lv' := [(3, .int (0 : Int32)), (2, .int r_6), (0, .ref (gh G 17)), (1, .int x1)]) rfl ?_
      rw [hP24] at hw
      exact g_perm [2, 3, 1, 0] rfl (hw)
    · replace hw := hw.1 c_7
      refine g_iconst C (0 : Int32) dX5_grantedShareBits_20 (by decide) ?_
      exact g_iret C hr hlk hw dX5_grantedShareBits_21
  · replace hw := hw.1 c_8
    refine g_iconst C (-1 : Int32) dX5_grantedShareBits_7 (by decide) ?_
    exact g_iret C hr hlk hw dX5_grantedShareBits_8

set_option maxHeartbeats 4000000 in
set_option maxRecDepth 100000 in
theorem c_X5_looks (l : Launch) (G : Gp) (hO : gOK G) (hwin : ∀ k, 17 ≤ k → k < 25 → k ∈ gks G) {x1 : Int32}  {st : St} {Q : St → Prop} (hw : wp_X5_looks x1 st Q) : MV l G yX5_looks cX5_looks 3 { frames := 2, cells := 0, slots := 0, locals := 48 } [.ref (gh G 17), .int x1] st Q := by
  refine MV.of (own := RX5) (lo := 17) (hi := 25) hO hwin (by decide) rfl (Nat.le_of_ble_eq_true rfl) (fun p e s m args below meth c C hr hlk => ?_)
  refine g_lv (lv' := [(0, .ref (gh G 17)), (1, .int x1)]) rfl ?_
  unfold wp_X5_looks at hw
  obtain ⟨P2, hP2⟩ : ∃ P : Int32 → St → Prop, P = fun x2 st => WG p l e ({ frames := 2, cells := 0, slots := 0, locals := 48 } : Room) s m args below meth c 0 0 (MQ below (va_Qv Q (gB G) (gA G)) args s 0 0 (gA G)) G 3 2 [(0, .ref (gh G 17)), (1, .int x1), (2, .int x2)] [] st := ⟨_, rfl⟩
  replace hw := hw P2
  replace hw := hw (by
    intro x2 st hw
    rw [hP2]
    refine g_iload_n C 2 dX5_looks_2 rfl rfl ?_
    refine g_sipush C (1024 : Int32) dX5_looks_3 (by decide) ?_
    refine g_icmp_ge C 27 dX5_looks_6 (by decide) (fun c_4 => ?_) (fun c_4 => ?_)
    · replace hw := hw.1 c_4
      exact g_vret C hr hlk hw dX5_looks_27
    · replace hw := hw.2 c_4
      refine g_aload_n C 0 dX5_looks_9 rfl rfl ?_
      refine g_get C inX5 (C.win (by decide) (by decide)) rfl rfl 6 (by decide) tw_629 rfl dX5_looks_10 ?_
      refine g_iload_n C 2 dX5_looks_13 rfl rfl ?_
      refine g_aload_n C 0 dX5_looks_14 rfl rfl ?_
      refine g_iload_n C 1 dX5_looks_15 rfl rfl ?_
      refine g_iload_n C 2 dX5_looks_16 rfl rfl ?_
      refine g_callVi C (c_X5_rulesFor l G hO hwin hw) kX5_rulesFor tw_796 (Rv.of C (C.win (by decide) (by decide)) rfl (ci := 5) rfl) rfl rfl ⟨Nat.le_of_ble_eq_true rfl, Nat.le_of_ble_eq_true rfl⟩ (As := [.int x1, .int x2]) (rest := [.int x2, .ref (gh G 22)]) rfl rfl (Nat.le_of_ble_eq_true rfl) dX5_looks_17 ⟨Nat.le_of_ble_eq_true rfl, Nat.le_of_ble_eq_true rfl⟩ (fun r_2 s_1 hw => ?_)
      refine g_iast C (C.win (by decide) (by decide)) (fun _ => rfl) hw.1 dX5_looks_20 ?_
      replace hw := hw.2
      obtain ⟨x2_3, ex2_3⟩ : ∃ z : Int32, z = x2 + (1 : Int32) := ⟨_, rfl⟩
      replace hw := hw x2_3 ex2_3
      refine g_iinc C x2_3 2 dX5_looks_21 rfl ex2_3.symm (by decide) (lv' := [(2, .int x2_3), (0, .ref (gh G 17)), (1, .int x1)]) rfl ?_
      refine g_goto C 2 dX5_looks_24 (by decide) ?_
      rw [hP2] at hw
      exact g_perm [1, 2, 0] rfl (hw))
  refine g_iconst C (0 : Int32) dX5_looks_0 (by decide) ?_
  refine g_istore_n C dX5_looks_1 rfl (by decide) (lv' := [(2, .int (0 : Int32)), (0, .ref (gh G 17)), (1, .int x1)]) rfl ?_
  rw [hP2] at hw
  exact g_perm [1, 2, 0] rfl (hw)

set_option maxHeartbeats 4000000 in
set_option maxRecDepth 100000 in
theorem c_X5_shows (l : Launch) (G : Gp) (hO : gOK G) (hwin : ∀ k, 17 ≤ k → k < 25 → k ∈ gks G) {x1 : Int32} {x2 : Int32} {x3 : Int32}  {st : St} {Q : Int32 → St → Prop} (hw : wp_X5_shows x1 x2 x3 st Q) : MI l G yX5_shows cX5_shows 8 (some .int) { frames := 2, cells := 0, slots := 0, locals := 47 } [.ref (gh G 17), .int x1, .int x2, .int x3] st Q := by
  refine MI.of (own := RX5) (lo := 17) (hi := 25) hO hwin (by decide) rfl (Nat.le_of_ble_eq_true rfl) (fun p e s m args below meth c C hr hlk => ?_)
  refine g_lv (lv' := [(0, .ref (gh G 17)), (1, .int x1), (2, .int x2), (3, .int x3)]) rfl ?_
  unfold wp_X5_shows at hw
  obtain ⟨P23, hP23⟩ : ∃ P : Int32 → Int32 → Int32 → St → Prop, P = fun x4 x5 x6 st => WG p l e ({ frames := 2, cells := 0, slots := 0, locals := 47 } : Room) s m args below meth c 0 0 (MQ below (va_Qi Q (gB G) (gA G)) args s 0 0 (gA G)) G 8 23 [(0, .ref (gh G 17)), (1, .int x1), (2, .int x2), (3, .int x3), (4, .int x4), (5, .int x5), (6, .int x6)] [] st := ⟨_, rfl⟩
  replace hw := hw P23
  replace hw := hw (by
    intro x4 x5 x6 st hw
    rw [hP23]
    refine g_iload C 6 dX5_shows_23 rfl ?_
    refine g_sipush C (1024 : Int32) dX5_shows_25 (by decide) ?_
    refine g_icmp_ge C 87 dX5_shows_28 (by decide) (fun c_12 => ?_) (fun c_12 => ?_)
    · replace hw := hw.1 c_12
      refine g_bipush C (-4 : Int32) dX5_shows_87 (by decide) ?_
      exact g_iret C hr hlk hw dX5_shows_89
    · replace hw := hw.2 c_12
      refine g_aload_n C 0 dX5_shows_31 rfl rfl ?_
      refine g_get C inX5 (C.win (by decide) (by decide)) rfl rfl 6 (by decide) tw_629 rfl dX5_shows_32 ?_
      refine g_iload C 6 dX5_shows_35 rfl ?_
      refine g_iald C (C.win (by decide) (by decide)) rfl hw.1 dX5_shows_37 ?_
      replace hw := hw.2
      refine g_iload_n C 2 dX5_shows_38 rfl rfl ?_
      refine g_iand C dX5_shows_39 ?_
      refine g_topi (fun x7_1 ex7_1 => ?_)
      replace hw := hw x7_1 ex7_1
      refine g_istore C dX5_shows_40 (by decide) (lv' := [(7, .int x7_1), (0, .ref (gh G 17)), (1, .int x1), (2, .int x2), (3, .int x3), (4, .int x4), (5, .int x5), (6, .int x6)]) rfl ?_
      refine g_iload C 0 dX5_shows_42 rfl ?_
      refine g_iload_n C 4 dX5_shows_44 rfl rfl ?_
      refine g_callSi C (c_X5_has l G hO hwin hw) kX5_has tw_702 rfl rfl ⟨Nat.le_of_ble_eq_true rfl, Nat.le_of_ble_eq_true rfl⟩ (As := [.int x7_1, .int x3]) (rest := []) rfl rfl (Nat.le_of_ble_eq_true rfl) dX5_shows_45 ⟨Nat.le_of_ble_eq_true rfl, Nat.le_of_ble_eq_true rfl⟩ (fun r_3 s_2 hw => ?_)
      refine g_if_eq C 81 dX5_shows_48 (by decide) (fun c_11 => ?_) (fun c_11 => ?_)
      · replace hw := hw.1 c_11
        obtain ⟨x6_4, ex6_4⟩ : ∃ z : Int32, z = x6 + (1 : Int32) := ⟨_, rfl⟩
        replace hw := hw x6_4 ex6_4
        refine g_iinc C x6_4 7 dX5_shows_81 rfl ex6_4.symm (by decide) (lv' := [(6, .int x6_4), (7, .int x7_1), (0, .ref (gh G 17)), (1, .int x1), (2, .int x2), (3, .int x3), (4, .int x4), (5, .int x5)]) rfl ?_
        refine g_goto C 23 dX5_shows_84 (by decide) ?_
        rw [hP23] at hw
        exact g_perm [2, 3, 4, 5, 6, 7, 0] rfl (hw)
      · replace hw := hw.2 c_11
        refine g_iload C 6 dX5_shows_51 rfl ?_
        refine g_iload C 0 dX5_shows_53 rfl ?_
        refine g_iload C 5 dX5_shows_55 rfl ?_
        refine g_callSi C (c_X5_decided l G hO hwin hw) kX5_decided tw_807 rfl rfl ⟨Nat.le_of_ble_eq_true rfl, Nat.le_of_ble_eq_true rfl⟩ (As := [.int x5, .int x7_1, .int x4]) (rest := []) rfl rfl (Nat.le_of_ble_eq_true rfl) dX5_shows_57 ⟨Nat.le_of_ble_eq_true rfl, Nat.le_of_ble_eq_true rfl⟩ (fun r_6 s_5 hw => ?_)
        refine g_iload C 6 dX5_shows_60 rfl ?_
        refine g_iload C 0 dX5_shows_62 rfl ?_
        refine g_iconst C (1 : Int32) dX5_shows_64 (by decide) ?_
        refine g_iload_n C 4 dX5_shows_65 rfl rfl ?_
        refine g_ishl C dX5_shows_66 ?_
        refine g_iconst C (-1 : Int32) dX5_shows_67 (by decide) ?_
        refine g_ixor C dX5_shows_68 ?_
        refine g_iand C dX5_shows_69 ?_
        refine g_iload C 5 dX5_shows_70 rfl ?_
        refine g_callSi C (c_X5_decided l G hO hwin hw) kX5_decided tw_807 rfl rfl ⟨Nat.le_of_ble_eq_true rfl, Nat.le_of_ble_eq_true rfl⟩ (As := [.int x5, .int (x7_1 &&& (((1 : Int32) <<< (x3 &&& (31 : Int32))) ^^^ (-1 : Int32))), .int x4]) (rest := [.int r_6]) rfl rfl (Nat.le_of_ble_eq_true rfl) dX5_shows_72 ⟨Nat.le_of_ble_eq_true rfl, Nat.le_of_ble_eq_true rfl⟩ (fun r_8 s_7 hw => ?_)
        refine g_icmp_eq C 81 dX5_shows_75 (by decide) (fun c_10 => ?_) (fun c_10 => ?_)
        · replace hw := hw.1 c_10
          obtain ⟨x6_9, ex6_9⟩ : ∃ z : Int32, z = x6 + (1 : Int32) := ⟨_, rfl⟩
          replace hw := hw x6_9 ex6_9
          refine g_iinc C x6_9 7 dX5_shows_81 rfl ex6_9.symm (by decide) (lv' := [(6, .int x6_9), (7, .int x7_1), (0, .ref (gh G 17)), (1, .int x1), (2, .int x2), (3, .int x3), (4, .int x4), (5, .int x5)]) rfl ?_
          refine g_goto C 23 dX5_shows_84 (by decide) ?_
          rw [hP23] at hw
          exact g_perm [2, 3, 4, 5, 6, 7, 0] rfl (hw)
        · replace hw := hw.2 c_10
          refine g_iload C 7 dX5_shows_78 rfl ?_
          exact g_iret C hr hlk hw dX5_shows_80)
  refine g_aload_n C 0 dX5_shows_0 rfl rfl ?_
  refine g_iload_n C 1 dX5_shows_1 rfl rfl ?_
  refine g_callVi C (c_X5_permits l G hO hwin hw) kX5_permits tw_803 (Rv.of C (C.win (by decide) (by decide)) rfl (ci := 5) rfl) rfl rfl ⟨Nat.le_of_ble_eq_true rfl, Nat.le_of_ble_eq_true rfl⟩ (As := [.int x1]) (rest := []) rfl rfl (Nat.le_of_ble_eq_true rfl) dX5_shows_2 ⟨Nat.le_of_ble_eq_true rfl, Nat.le_of_ble_eq_true rfl⟩ (fun r_14 s_13 hw => ?_)
  refine g_istore C dX5_shows_5 (by decide) (lv' := [(4, .int r_14), (0, .ref (gh G 17)), (1, .int x1), (2, .int x2), (3, .int x3)]) rfl ?_
  refine g_aload_n C 1 dX5_shows_7 rfl rfl ?_
  refine g_get C inX5 (C.win (by decide) (by decide)) rfl rfl 2 (by decide) tw_625 rfl dX5_shows_8 ?_
  refine g_bipush C (42 : Int32) dX5_shows_11 (by decide) ?_
  refine g_iload_n C 2 dX5_shows_13 rfl rfl ?_
  refine g_imul C dX5_shows_14 ?_
  refine g_iconst C (1 : Int32) dX5_shows_15 (by decide) ?_
  refine g_iadd C dX5_shows_16 ?_
  refine g_iald C (C.win (by decide) (by decide)) rfl hw.1 dX5_shows_17 ?_
  replace hw := hw.2
  refine g_topi (fun x5_15 ex5_15 => ?_)
  replace hw := hw x5_15 ex5_15
  refine g_istore C dX5_shows_18 (by decide) (lv' := [(5, .int x5_15), (4, .int r_14), (0, .ref (gh G 17)), (1, .int x1), (2, .int x2), (3, .int x3)]) rfl ?_
  refine g_iconst C (0 : Int32) dX5_shows_20 (by decide) ?_
  refine g_istore C dX5_shows_21 (by decide) (lv' := [(6, .int (0 : Int32)), (5, .int x5_15), (4, .int r_14), (0, .ref (gh G 17)), (1, .int x1), (2, .int x2), (3, .int x3)]) rfl ?_
  rw [hP23] at hw
  exact g_perm [3, 4, 5, 6, 2, 1, 0] rfl (hw)

set_option maxHeartbeats 4000000 in
set_option maxRecDepth 100000 in
theorem c_X5_witness (l : Launch) (G : Gp) (hO : gOK G) (hwin : ∀ k, 17 ≤ k → k < 25 → k ∈ gks G) {x1 : Int32} {x2 : Int32}  {st : St} {Q : Int32 → St → Prop} (hw : wp_X5_witness x1 x2 st Q) : MI l G yX5_witness cX5_witness 3 (some .int) { frames := 3, cells := 0, slots := 0, locals := 74 } [.ref (gh G 17), .int x1, .int x2] st Q := by
  refine MI.of (own := RX5) (lo := 17) (hi := 25) hO hwin (by decide) rfl (Nat.le_of_ble_eq_true rfl) (fun p e s m args below meth c C hr hlk => ?_)
  refine g_lv (lv' := [(0, .ref (gh G 17)), (1, .int x1), (2, .int x2)]) rfl ?_
  unfold wp_X5_witness at hw
  refine g_aload_n C 0 dX5_witness_0 rfl rfl ?_
  refine g_iload_n C 1 dX5_witness_1 rfl rfl ?_
  refine g_iload_n C 2 dX5_witness_2 rfl rfl ?_
  refine g_callVi C (c_X5_isRule l G hO hwin hw) kX5_isRule tw_741 (Rv.of C (C.win (by decide) (by decide)) rfl (ci := 5) rfl) rfl rfl ⟨Nat.le_of_ble_eq_true rfl, Nat.le_of_ble_eq_true rfl⟩ (As := [.int x1, .int x2]) (rest := []) rfl rfl (Nat.le_of_ble_eq_true rfl) dX5_witness_3 ⟨Nat.le_of_ble_eq_true rfl, Nat.le_of_ble_eq_true rfl⟩ (fun r_2 s_1 hw => ?_)
  refine g_if_ne C 11 dX5_witness_6 (by decide) (fun c_6 => ?_) (fun c_6 => ?_)
  · replace hw := hw.2 c_6
    refine g_aload_n C 0 dX5_witness_11 rfl rfl ?_
    refine g_iload_n C 1 dX5_witness_12 rfl rfl ?_
    refine g_callVv C (c_X5_looks l G hO hwin hw) kX5_looks tw_862 (Rv.of C (C.win (by decide) (by decide)) rfl (ci := 5) rfl) rfl rfl ⟨Nat.le_of_ble_eq_true rfl, Nat.le_of_ble_eq_true rfl⟩ (As := [.int x1]) (rest := []) rfl rfl (Nat.le_of_ble_eq_true rfl) dX5_witness_13 ⟨Nat.le_of_ble_eq_true rfl, Nat.le_of_ble_eq_true rfl⟩ (fun s_3 hw => ?_)
    refine g_aload_n C 0 dX5_witness_16 rfl rfl ?_
    refine g_iload_n C 1 dX5_witness_17 rfl rfl ?_
    refine g_sipush C (255 : Int32) dX5_witness_18 (by decide) ?_
    refine g_iload_n C 2 dX5_witness_21 rfl rfl ?_
    refine g_callVi C (c_X5_shows l G hO hwin hw) kX5_shows tw_866 (Rv.of C (C.win (by decide) (by decide)) rfl (ci := 5) rfl) rfl rfl ⟨Nat.le_of_ble_eq_true rfl, Nat.le_of_ble_eq_true rfl⟩ (As := [.int x1, .int (255 : Int32), .int x2]) (rest := []) rfl rfl (Nat.le_of_ble_eq_true rfl) dX5_witness_22 ⟨Nat.le_of_ble_eq_true rfl, Nat.le_of_ble_eq_true rfl⟩ (fun r_5 s_4 hw => ?_)
    exact g_iret C hr hlk hw dX5_witness_25
  · replace hw := hw.1 c_6
    refine g_iconst C (-1 : Int32) dX5_witness_9 (by decide) ?_
    exact g_iret C hr hlk hw dX5_witness_10

set_option maxHeartbeats 4000000 in
set_option maxRecDepth 100000 in
theorem c_X5_isRedundant (l : Launch) (G : Gp) (hO : gOK G) (hwin : ∀ k, 17 ≤ k → k < 25 → k ∈ gks G) {x1 : Int32} {x2 : Int32}  {st : St} {Q : Int32 → St → Prop} (hw : wp_X5_isRedundant x1 x2 st Q) : MI l G yX5_isRedundant cX5_isRedundant 4 (some .int) { frames := 4, cells := 0, slots := 0, locals := 96 } [.ref (gh G 17), .int x1, .int x2] st Q := by
  refine MI.of (own := RX5) (lo := 17) (hi := 25) hO hwin (by decide) rfl (Nat.le_of_ble_eq_true rfl) (fun p e s m args below meth c C hr hlk => ?_)
  refine g_lv (lv' := [(0, .ref (gh G 17)), (1, .int x1), (2, .int x2)]) rfl ?_
  unfold wp_X5_isRedundant at hw
  refine g_aload_n C 0 dX5_isRedundant_0 rfl rfl ?_
  refine g_iload_n C 1 dX5_isRedundant_1 rfl rfl ?_
  refine g_iload_n C 2 dX5_isRedundant_2 rfl rfl ?_
  refine g_callVi C (c_X5_witness l G hO hwin hw) kX5_witness tw_874 (Rv.of C (C.win (by decide) (by decide)) rfl (ci := 5) rfl) rfl rfl ⟨Nat.le_of_ble_eq_true rfl, Nat.le_of_ble_eq_true rfl⟩ (As := [.int x1, .int x2]) (rest := []) rfl rfl (Nat.le_of_ble_eq_true rfl) dX5_isRedundant_3 ⟨Nat.le_of_ble_eq_true rfl, Nat.le_of_ble_eq_true rfl⟩ (fun r_2 s_1 hw => ?_)
  refine g_istore_n C dX5_isRedundant_6 rfl (by decide) (lv' := [(3, .int r_2), (0, .ref (gh G 17)), (1, .int x1), (2, .int x2)]) rfl ?_
  refine g_iload_n C 0 dX5_isRedundant_7 rfl rfl ?_
  refine g_iconst C (-1 : Int32) dX5_isRedundant_8 (by decide) ?_
  refine g_icmp_ne C 16 dX5_isRedundant_9 (by decide) (fun c_4 => ?_) (fun c_4 => ?_)
  · replace hw := hw.2 c_4
    refine g_iload_n C 0 dX5_isRedundant_16 rfl rfl ?_
    refine g_bipush C (-4 : Int32) dX5_isRedundant_17 (by decide) ?_
    refine g_icmp_ne C 26 dX5_isRedundant_19 (by decide) (fun c_3 => ?_) (fun c_3 => ?_)
    · replace hw := hw.2 c_3
      refine g_iconst C (0 : Int32) dX5_isRedundant_26 (by decide) ?_
      exact g_iret C hr hlk hw dX5_isRedundant_27
    · replace hw := hw.1 c_3
      refine g_iconst C (1 : Int32) dX5_isRedundant_22 (by decide) ?_
      refine g_goto C 27 dX5_isRedundant_23 (by decide) ?_
      exact g_iret C hr hlk hw dX5_isRedundant_27
  · replace hw := hw.1 c_4
    refine g_iload_n C 0 dX5_isRedundant_12 rfl rfl ?_
    refine g_goto C 27 dX5_isRedundant_13 (by decide) ?_
    exact g_iret C hr hlk hw dX5_isRedundant_27

set_option maxHeartbeats 4000000 in
set_option maxRecDepth 100000 in
theorem c_X5_irredundantCore (l : Launch) (G : Gp) (hO : gOK G) (hwin : ∀ k, 17 ≤ k → k < 25 → k ∈ gks G) {x1 : Int32}  {st : St} {Q : Int32 → St → Prop} (hw : wp_X5_irredundantCore x1 st Q) : MI l G yX5_irredundantCore cX5_irredundantCore 4 (some .int) { frames := 3, cells := 0, slots := 0, locals := 74 } [.ref (gh G 17), .int x1] st Q := by
  refine MI.of (own := RX5) (lo := 17) (hi := 25) hO hwin (by decide) rfl (Nat.le_of_ble_eq_true rfl) (fun p e s m args below meth c C hr hlk => ?_)
  refine g_lv (lv' := [(0, .ref (gh G 17)), (1, .int x1)]) rfl ?_
  unfold wp_X5_irredundantCore at hw
  obtain ⟨P30, hP30⟩ : ∃ P : Int32 → Int32 → St → Prop, P = fun x2 x3 st => WG p l e ({ frames := 3, cells := 0, slots := 0, locals := 74 } : Room) s m args below meth c 0 0 (MQ below (va_Qi Q (gB G) (gA G)) args s 0 0 (gA G)) G 4 30 [(0, .ref (gh G 17)), (1, .int x1), (2, .int x2), (3, .int x3)] [] st := ⟨_, rfl⟩
  replace hw := hw P30
  replace hw := hw (by
    intro x2 x3 st hw
    rw [hP30]
    refine g_iload_n C 3 dX5_irredundantCore_30 rfl rfl ?_
    refine g_aload_n C 0 dX5_irredundantCore_31 rfl rfl ?_
    refine g_get C inX5 (C.win (by decide) (by decide)) rfl rfl 2 (by decide) tw_625 rfl dX5_irredundantCore_32 ?_
    refine g_bipush C (42 : Int32) dX5_irredundantCore_35 (by decide) ?_
    refine g_iload_n C 1 dX5_irredundantCore_37 rfl rfl ?_
    refine g_imul C dX5_irredundantCore_38 ?_
    refine g_iald C (C.win (by decide) (by decide)) rfl hw.1 dX5_irredundantCore_39 ?_
    replace hw := hw.2
    refine g_icmp_ge C 82 dX5_irredundantCore_40 (by decide) (fun c_10 => ?_) (fun c_10 => ?_)
    · replace hw := hw.1 c_10
      refine g_iload_n C 2 dX5_irredundantCore_82 rfl rfl ?_
      exact g_iret C hr hlk hw dX5_irredundantCore_83
    · replace hw := hw.2 c_10
      refine g_iload_n C 2 dX5_irredundantCore_43 rfl rfl ?_
      refine g_iload_n C 3 dX5_irredundantCore_44 rfl rfl ?_
      refine g_callSi C (c_X5_has l G hO hwin hw) kX5_has tw_702 rfl rfl ⟨Nat.le_of_ble_eq_true rfl, Nat.le_of_ble_eq_true rfl⟩ (As := [.int x2, .int x3]) (rest := []) rfl rfl (Nat.le_of_ble_eq_true rfl) dX5_irredundantCore_45 ⟨Nat.le_of_ble_eq_true rfl, Nat.le_of_ble_eq_true rfl⟩ (fun r_2 s_1 hw => ?_)
      refine g_if_eq C 76 dX5_irredundantCore_48 (by decide) (fun c_9 => ?_) (fun c_9 => ?_)
      · replace hw := hw.1 c_9
        obtain ⟨x3_3, ex3_3⟩ : ∃ z : Int32, z = x3 + (1 : Int32) := ⟨_, rfl⟩
        replace hw := hw x3_3 ex3_3
        refine g_iinc C x3_3 3 dX5_irredundantCore_76 rfl ex3_3.symm (by decide) (lv' := [(3, .int x3_3), (0, .ref (gh G 17)), (1, .int x1), (2, .int x2)]) rfl ?_
        refine g_goto C 30 dX5_irredundantCore_79 (by decide) ?_
        rw [hP30] at hw
        exact g_perm [1, 2, 3, 0] rfl (hw)
      · replace hw := hw.2 c_9
        refine g_aload_n C 0 dX5_irredundantCore_51 rfl rfl ?_
        refine g_iload_n C 1 dX5_irredundantCore_52 rfl rfl ?_
        refine g_iload_n C 2 dX5_irredundantCore_53 rfl rfl ?_
        refine g_iload_n C 3 dX5_irredundantCore_54 rfl rfl ?_
        refine g_callVi C (c_X5_shows l G hO hwin hw) kX5_shows tw_866 (Rv.of C (C.win (by decide) (by decide)) rfl (ci := 5) rfl) rfl rfl ⟨Nat.le_of_ble_eq_true rfl, Nat.le_of_ble_eq_true rfl⟩ (As := [.int x1, .int x2, .int x3]) (rest := []) rfl rfl (Nat.le_of_ble_eq_true rfl) dX5_irredundantCore_55 ⟨Nat.le_of_ble_eq_true rfl, Nat.le_of_ble_eq_true rfl⟩ (fun r_5 s_4 hw => ?_)
        refine g_bipush C (-4 : Int32) dX5_irredundantCore_58 (by decide) ?_
        refine g_icmp_ne C 76 dX5_irredundantCore_60 (by decide) (fun c_8 => ?_) (fun c_8 => ?_)
        · replace hw := hw.2 c_8
          obtain ⟨x3_6, ex3_6⟩ : ∃ z : Int32, z = x3 + (1 : Int32) := ⟨_, rfl⟩
          replace hw := hw x3_6 ex3_6
          refine g_iinc C x3_6 3 dX5_irredundantCore_76 rfl ex3_6.symm (by decide) (lv' := [(3, .int x3_6), (0, .ref (gh G 17)), (1, .int x1), (2, .int x2)]) rfl ?_
          refine g_goto C 30 dX5_irredundantCore_79 (by decide) ?_
          rw [hP30] at hw
          exact g_perm [1, 2, 3, 0] rfl (hw)
        · replace hw := hw.1 c_8
          refine g_iload_n C 2 dX5_irredundantCore_63 rfl rfl ?_
          refine g_iconst C (1 : Int32) dX5_irredundantCore_64 (by decide) ?_
          refine g_iload_n C 3 dX5_irredundantCore_65 rfl rfl ?_
          refine g_ishl C dX5_irredundantCore_66 ?_
          refine g_iconst C (-1 : Int32) dX5_irredundantCore_67 (by decide) ?_
          refine g_ixor C dX5_irredundantCore_68 ?_
          refine g_iand C dX5_irredundantCore_69 ?_
          refine g_topi (fun x2_7 ex2_7 => ?_)
          replace hw := hw x2_7 ex2_7
          refine g_istore_n C dX5_irredundantCore_70 rfl (by decide) (lv' := [(2, .int x2_7), (0, .ref (gh G 17)), (1, .int x1), (3, .int x3)]) rfl ?_
          refine g_iconst C (0 : Int32) dX5_irredundantCore_71 (by decide) ?_
          refine g_istore_n C dX5_irredundantCore_72 rfl (by decide) (lv' := [(3, .int (0 : Int32)), (2, .int x2_7), (0, .ref (gh G 17)), (1, .int x1)]) rfl ?_
          refine g_goto C 30 dX5_irredundantCore_73 (by decide) ?_
          rw [hP30] at hw
          exact g_perm [2, 3, 1, 0] rfl (hw))
  refine g_iload_n C 1 dX5_irredundantCore_0 rfl rfl ?_
  refine g_callSi C (c_X5_isPolicy l G hO hwin hw) kX5_isPolicy tw_726 rfl rfl ⟨Nat.le_of_ble_eq_true rfl, Nat.le_of_ble_eq_true rfl⟩ (As := [.int x1]) (rest := []) rfl rfl (Nat.le_of_ble_eq_true rfl) dX5_irredundantCore_1 ⟨Nat.le_of_ble_eq_true rfl, Nat.le_of_ble_eq_true rfl⟩ (fun r_12 s_11 hw => ?_)
  refine g_if_ne C 9 dX5_irredundantCore_4 (by decide) (fun c_15 => ?_) (fun c_15 => ?_)
  · replace hw := hw.2 c_15
    refine g_aload_n C 0 dX5_irredundantCore_9 rfl rfl ?_
    refine g_iload_n C 1 dX5_irredundantCore_10 rfl rfl ?_
    refine g_callVv C (c_X5_looks l G hO hwin hw) kX5_looks tw_862 (Rv.of C (C.win (by decide) (by decide)) rfl (ci := 5) rfl) rfl rfl ⟨Nat.le_of_ble_eq_true rfl, Nat.le_of_ble_eq_true rfl⟩ (As := [.int x1]) (rest := []) rfl rfl (Nat.le_of_ble_eq_true rfl) dX5_irredundantCore_11 ⟨Nat.le_of_ble_eq_true rfl, Nat.le_of_ble_eq_true rfl⟩ (fun s_13 hw => ?_)
    refine g_iconst C (1 : Int32) dX5_irredundantCore_14 (by decide) ?_
    refine g_aload_n C 0 dX5_irredundantCore_15 rfl rfl ?_
    refine g_get C inX5 (C.win (by decide) (by decide)) rfl rfl 2 (by decide) tw_625 rfl dX5_irredundantCore_16 ?_
    refine g_bipush C (42 : Int32) dX5_irredundantCore_19 (by decide) ?_
    refine g_iload_n C 1 dX5_irredundantCore_21 rfl rfl ?_
    refine g_imul C dX5_irredundantCore_22 ?_
    refine g_iald C (C.win (by decide) (by decide)) rfl hw.1 dX5_irredundantCore_23 ?_
    replace hw := hw.2
    refine g_ishl C dX5_irredundantCore_24 ?_
    refine g_iconst C (1 : Int32) dX5_irredundantCore_25 (by decide) ?_
    refine g_isub C dX5_irredundantCore_26 ?_
    refine g_topi (fun x2_14 ex2_14 => ?_)
    replace hw := hw x2_14 ex2_14
    refine g_istore_n C dX5_irredundantCore_27 rfl (by decide) (lv' := [(2, .int x2_14), (0, .ref (gh G 17)), (1, .int x1)]) rfl ?_
    refine g_iconst C (0 : Int32) dX5_irredundantCore_28 (by decide) ?_
    refine g_istore_n C dX5_irredundantCore_29 rfl (by decide) (lv' := [(3, .int (0 : Int32)), (2, .int x2_14), (0, .ref (gh G 17)), (1, .int x1)]) rfl ?_
    rw [hP30] at hw
    exact g_perm [2, 3, 1, 0] rfl (hw)
  · replace hw := hw.1 c_15
    refine g_iconst C (-1 : Int32) dX5_irredundantCore_7 (by decide) ?_
    exact g_iret C hr hlk hw dX5_irredundantCore_8

set_option maxHeartbeats 4000000 in
set_option maxRecDepth 100000 in
theorem c_X5_isWithoutGain (l : Launch) (G : Gp) (hO : gOK G) (hwin : ∀ k, 17 ≤ k → k < 25 → k ∈ gks G) {x1 : Int32}  {st : St} {Q : Int32 → St → Prop} (hw : wp_X5_isWithoutGain x1 st Q) : MI l G yX5_isWithoutGain cX5_isWithoutGain 5 (some .boolean) { frames := 2, cells := 0, slots := 0, locals := 47 } [.ref (gh G 17), .int x1] st Q := by
  refine MI.of (own := RX5) (lo := 17) (hi := 25) hO hwin (by decide) rfl (Nat.le_of_ble_eq_true rfl) (fun p e s m args below meth c C hr hlk => ?_)
  refine g_lv (lv' := [(0, .ref (gh G 17)), (1, .int x1)]) rfl ?_
  unfold wp_X5_isWithoutGain at hw
  obtain ⟨P17, hP17⟩ : ∃ P : Int32 → Int32 → Int32 → St → Prop, P = fun x2 x3 x4 st => WG p l e ({ frames := 2, cells := 0, slots := 0, locals := 47 } : Room) s m args below meth c 0 0 (MQ below (va_Qi Q (gB G) (gA G)) args s 0 0 (gA G)) G 5 17 [(0, .ref (gh G 17)), (1, .int x1), (2, .int x2), (3, .int x3), (4, .int x4)] [] st := ⟨_, rfl⟩
  replace hw := hw P17
  replace hw := hw (by
    intro x2 x3 x4 st hw
    rw [hP17]
    refine g_iload C 4 dX5_isWithoutGain_17 rfl ?_
    refine g_sipush C (1024 : Int32) dX5_isWithoutGain_19 (by decide) ?_
    refine g_icmp_ge C 60 dX5_isWithoutGain_22 (by decide) (fun c_7 => ?_) (fun c_7 => ?_)
    · replace hw := hw.1 c_7
      refine g_iconst C (1 : Int32) dX5_isWithoutGain_60 (by decide) ?_
      exact g_zret C hr hlk rfl hw dX5_isWithoutGain_61
    · replace hw := hw.2 c_7
      refine g_aload_n C 0 dX5_isWithoutGain_25 rfl rfl ?_
      refine g_get C inX5 (C.win (by decide) (by decide)) rfl rfl 7 (by decide) tw_630 rfl dX5_isWithoutGain_26 ?_
      refine g_iload C 4 dX5_isWithoutGain_29 rfl ?_
      refine g_iald C (C.win (by decide) (by decide)) rfl hw.1 dX5_isWithoutGain_31 ?_
      replace hw := hw.2
      refine g_if_ne C 54 dX5_isWithoutGain_32 (by decide) (fun c_6 => ?_) (fun c_6 => ?_)
      · replace hw := hw.2 c_6
        obtain ⟨x4_1, ex4_1⟩ : ∃ z : Int32, z = x4 + (1 : Int32) := ⟨_, rfl⟩
        replace hw := hw x4_1 ex4_1
        refine g_iinc C x4_1 4 dX5_isWithoutGain_54 rfl ex4_1.symm (by decide) (lv' := [(4, .int x4_1), (0, .ref (gh G 17)), (1, .int x1), (2, .int x2), (3, .int x3)]) rfl ?_
        refine g_goto C 17 dX5_isWithoutGain_57 (by decide) ?_
        rw [hP17] at hw
        exact g_perm [1, 2, 3, 4, 0] rfl (hw)
      · replace hw := hw.1 c_6
        refine g_iload_n C 3 dX5_isWithoutGain_35 rfl rfl ?_
        refine g_aload_n C 0 dX5_isWithoutGain_36 rfl rfl ?_
        refine g_get C inX5 (C.win (by decide) (by decide)) rfl rfl 6 (by decide) tw_629 rfl dX5_isWithoutGain_37 ?_
        refine g_iload C 4 dX5_isWithoutGain_40 rfl ?_
        refine g_iald C (C.win (by decide) (by decide)) rfl hw.1 dX5_isWithoutGain_42 ?_
        replace hw := hw.2
        refine g_iload_n C 1 dX5_isWithoutGain_43 rfl rfl ?_
        refine g_iand C dX5_isWithoutGain_44 ?_
        refine g_iload_n C 2 dX5_isWithoutGain_45 rfl rfl ?_
        refine g_callSi C (c_X5_decided l G hO hwin hw) kX5_decided tw_807 rfl rfl ⟨Nat.le_of_ble_eq_true rfl, Nat.le_of_ble_eq_true rfl⟩ (As := [.int x3, .int ((st 22 x4.toNatClampNeg) &&& x1), .int x2]) (rest := []) rfl rfl (Nat.le_of_ble_eq_true rfl) dX5_isWithoutGain_46 ⟨Nat.le_of_ble_eq_true rfl, Nat.le_of_ble_eq_true rfl⟩ (fun r_3 s_2 hw => ?_)
        refine g_if_ne C 54 dX5_isWithoutGain_49 (by decide) (fun c_5 => ?_) (fun c_5 => ?_)
        · replace hw := hw.2 c_5
          obtain ⟨x4_4, ex4_4⟩ : ∃ z : Int32, z = x4 + (1 : Int32) := ⟨_, rfl⟩
          replace hw := hw x4_4 ex4_4
          refine g_iinc C x4_4 4 dX5_isWithoutGain_54 rfl ex4_4.symm (by decide) (lv' := [(4, .int x4_4), (0, .ref (gh G 17)), (1, .int x1), (2, .int x2), (3, .int x3)]) rfl ?_
          refine g_goto C 17 dX5_isWithoutGain_57 (by decide) ?_
          rw [hP17] at hw
          exact g_perm [1, 2, 3, 4, 0] rfl (hw)
        · replace hw := hw.1 c_5
          refine g_iconst C (0 : Int32) dX5_isWithoutGain_52 (by decide) ?_
          exact g_zret C hr hlk rfl hw dX5_isWithoutGain_53)
  refine g_aload_n C 0 dX5_isWithoutGain_0 rfl rfl ?_
  refine g_iconst C (1 : Int32) dX5_isWithoutGain_1 (by decide) ?_
  refine g_callVi C (c_X5_permits l G hO hwin hw) kX5_permits tw_803 (Rv.of C (C.win (by decide) (by decide)) rfl (ci := 5) rfl) rfl rfl ⟨Nat.le_of_ble_eq_true rfl, Nat.le_of_ble_eq_true rfl⟩ (As := [.int (1 : Int32)]) (rest := []) rfl rfl (Nat.le_of_ble_eq_true rfl) dX5_isWithoutGain_2 ⟨Nat.le_of_ble_eq_true rfl, Nat.le_of_ble_eq_true rfl⟩ (fun r_9 s_8 hw => ?_)
  refine g_istore_n C dX5_isWithoutGain_5 rfl (by decide) (lv' := [(2, .int r_9), (0, .ref (gh G 17)), (1, .int x1)]) rfl ?_
  refine g_aload_n C 1 dX5_isWithoutGain_6 rfl rfl ?_
  refine g_get C inX5 (C.win (by decide) (by decide)) rfl rfl 2 (by decide) tw_625 rfl dX5_isWithoutGain_7 ?_
  refine g_bipush C (43 : Int32) dX5_isWithoutGain_10 (by decide) ?_
  refine g_iald C (C.win (by decide) (by decide)) rfl hw.1 dX5_isWithoutGain_12 ?_
  replace hw := hw.2
  refine g_topi (fun x3_10 ex3_10 => ?_)
  replace hw := hw x3_10 ex3_10
  refine g_istore_n C dX5_isWithoutGain_13 rfl (by decide) (lv' := [(3, .int x3_10), (2, .int r_9), (0, .ref (gh G 17)), (1, .int x1)]) rfl ?_
  refine g_iconst C (0 : Int32) dX5_isWithoutGain_14 (by decide) ?_
  refine g_istore C dX5_isWithoutGain_15 (by decide) (lv' := [(4, .int (0 : Int32)), (3, .int x3_10), (2, .int r_9), (0, .ref (gh G 17)), (1, .int x1)]) rfl ?_
  rw [hP17] at hw
  exact g_perm [3, 4, 2, 1, 0] rfl (hw)

set_option maxHeartbeats 4000000 in
set_option maxRecDepth 100000 in
theorem c_X5_leastRemoval (l : Launch) (G : Gp) (hO : gOK G) (hwin : ∀ k, 17 ≤ k → k < 25 → k ∈ gks G)   {st : St} {Q : Int32 → St → Prop} (hw : wp_X5_leastRemoval  st Q) : MI l G yX5_leastRemoval cX5_leastRemoval 4 (some .int) { frames := 3, cells := 0, slots := 0, locals := 71 } [.ref (gh G 17)] st Q := by
  refine MI.of (own := RX5) (lo := 17) (hi := 25) hO hwin (by decide) rfl (Nat.le_of_ble_eq_true rfl) (fun p e s m args below meth c C hr hlk => ?_)
  refine g_lv (lv' := [(0, .ref (gh G 17))]) rfl ?_
  unfold wp_X5_leastRemoval at hw
  obtain ⟨P7, hP7⟩ : ∃ P : Int32 → St → Prop, P = fun x1 st => WG p l e ({ frames := 3, cells := 0, slots := 0, locals := 71 } : Room) s m args below meth c 0 0 (MQ below (va_Qi Q (gB G) (gA G)) args s 0 0 (gA G)) G 4 7 [(0, .ref (gh G 17)), (1, .int x1)] [] st := ⟨_, rfl⟩
  obtain ⟨P54, hP54⟩ : ∃ P : Int32 → Int32 → St → Prop, P = fun x1 x2 st => WG p l e ({ frames := 3, cells := 0, slots := 0, locals := 71 } : Room) s m args below meth c 0 0 (MQ below (va_Qi Q (gB G) (gA G)) args s 0 0 (gA G)) G 4 54 [(0, .ref (gh G 17)), (1, .int x1), (2, .int x2)] [] st := ⟨_, rfl⟩
  obtain ⟨P67, hP67⟩ : ∃ P : Int32 → Int32 → Int32 → St → Prop, P = fun x1 x2 x3 st => WG p l e ({ frames := 3, cells := 0, slots := 0, locals := 71 } : Room) s m args below meth c 0 0 (MQ below (va_Qi Q (gB G) (gA G)) args s 0 0 (gA G)) G 4 67 [(0, .ref (gh G 17)), (1, .int x1), (2, .int x2), (3, .int x3)] [] st := ⟨_, rfl⟩
  replace hw := hw P7 P54 P67
  replace hw := hw (by
    intro x1 st hw
    rw [hP7]
    refine g_iload_n C 1 dX5_leastRemoval_7 rfl rfl ?_
    refine g_sipush C (1024 : Int32) dX5_leastRemoval_8 (by decide) ?_
    refine g_icmp_ge C 40 dX5_leastRemoval_11 (by decide) (fun c_7 => ?_) (fun c_7 => ?_)
    · replace hw := hw.1 c_7
      refine g_iconst C (1 : Int32) dX5_leastRemoval_40 (by decide) ?_
      refine g_aload_n C 0 dX5_leastRemoval_41 rfl rfl ?_
      refine g_get C inX5 (C.win (by decide) (by decide)) rfl rfl 2 (by decide) tw_625 rfl dX5_leastRemoval_42 ?_
      refine g_bipush C (42 : Int32) dX5_leastRemoval_45 (by decide) ?_
      refine g_iald C (C.win (by decide) (by decide)) rfl hw.1 dX5_leastRemoval_47 ?_
      replace hw := hw.2
      refine g_ishl C dX5_leastRemoval_48 ?_
      refine g_iconst C (1 : Int32) dX5_leastRemoval_49 (by decide) ?_
      refine g_isub C dX5_leastRemoval_50 ?_
      refine g_topi (fun x1_1 ex1_1 => ?_)
      replace hw := hw x1_1 ex1_1
      refine g_istore_n C dX5_leastRemoval_51 rfl (by decide) (lv' := [(1, .int x1_1), (0, .ref (gh G 17))]) rfl ?_
      refine g_iconst C (0 : Int32) dX5_leastRemoval_52 (by decide) ?_
      refine g_istore_n C dX5_leastRemoval_53 rfl (by decide) (lv' := [(2, .int (0 : Int32)), (1, .int x1_1), (0, .ref (gh G 17))]) rfl ?_
      rw [hP54] at hw
      exact g_perm [2, 1, 0] rfl (hw)
    · replace hw := hw.2 c_7
      refine g_aload_n C 0 dX5_leastRemoval_14 rfl rfl ?_
      refine g_get C inX5 (C.win (by decide) (by decide)) rfl rfl 7 (by decide) tw_630 rfl dX5_leastRemoval_15 ?_
      refine g_iload_n C 1 dX5_leastRemoval_18 rfl rfl ?_
      refine g_aload_n C 0 dX5_leastRemoval_19 rfl rfl ?_
      refine g_iconst C (0 : Int32) dX5_leastRemoval_20 (by decide) ?_
      refine g_iload_n C 1 dX5_leastRemoval_21 rfl rfl ?_
      refine g_callVi C (c_X5_decision l G hO hwin hw) kX5_decision tw_792 (Rv.of C (C.win (by decide) (by decide)) rfl (ci := 5) rfl) rfl rfl ⟨Nat.le_of_ble_eq_true rfl, Nat.le_of_ble_eq_true rfl⟩ (As := [.int (0 : Int32), .int x1]) (rest := [.int x1, .ref (gh G 23)]) rfl rfl (Nat.le_of_ble_eq_true rfl) dX5_leastRemoval_22 ⟨Nat.le_of_ble_eq_true rfl, Nat.le_of_ble_eq_true rfl⟩ (fun r_3 s_2 hw => ?_)
      refine g_if_ne C 32 dX5_leastRemoval_25 (by decide) (fun c_6 => ?_) (fun c_6 => ?_)
      · replace hw := hw.2 c_6
        refine g_iconst C (0 : Int32) dX5_leastRemoval_32 (by decide) ?_
        refine g_iast C (C.win (by decide) (by decide)) (fun _ => rfl) hw.1 dX5_leastRemoval_33 ?_
        replace hw := hw.2
        obtain ⟨x1_4, ex1_4⟩ : ∃ z : Int32, z = x1 + (1 : Int32) := ⟨_, rfl⟩
        replace hw := hw x1_4 ex1_4
        refine g_iinc C x1_4 1 dX5_leastRemoval_34 rfl ex1_4.symm (by decide) (lv' := [(1, .int x1_4), (0, .ref (gh G 17))]) rfl ?_
        refine g_goto C 7 dX5_leastRemoval_37 (by decide) ?_
        rw [hP7] at hw
        exact g_perm [1, 0] rfl (hw)
      · replace hw := hw.1 c_6
        refine g_iconst C (1 : Int32) dX5_leastRemoval_28 (by decide) ?_
        refine g_goto C 33 dX5_leastRemoval_29 (by decide) ?_
        refine g_iast C (C.win (by decide) (by decide)) (fun _ => rfl) hw.1 dX5_leastRemoval_33 ?_
        replace hw := hw.2
        obtain ⟨x1_5, ex1_5⟩ : ∃ z : Int32, z = x1 + (1 : Int32) := ⟨_, rfl⟩
        replace hw := hw x1_5 ex1_5
        refine g_iinc C x1_5 1 dX5_leastRemoval_34 rfl ex1_5.symm (by decide) (lv' := [(1, .int x1_5), (0, .ref (gh G 17))]) rfl ?_
        refine g_goto C 7 dX5_leastRemoval_37 (by decide) ?_
        rw [hP7] at hw
        exact g_perm [1, 0] rfl (hw))
  replace hw := hw (by
    intro x1 x2 st hw
    rw [hP54]
    refine g_iload_n C 2 dX5_leastRemoval_54 rfl rfl ?_
    refine g_aload_n C 0 dX5_leastRemoval_55 rfl rfl ?_
    refine g_get C inX5 (C.win (by decide) (by decide)) rfl rfl 2 (by decide) tw_625 rfl dX5_leastRemoval_56 ?_
    refine g_bipush C (42 : Int32) dX5_leastRemoval_59 (by decide) ?_
    refine g_iald C (C.win (by decide) (by decide)) rfl hw.1 dX5_leastRemoval_61 ?_
    replace hw := hw.2
    refine g_icmp_gt C 106 dX5_leastRemoval_62 (by decide) (fun c_8 => ?_) (fun c_8 => ?_)
    · replace hw := hw.1 c_8
      refine g_bipush C (-4 : Int32) dX5_leastRemoval_106 (by decide) ?_
      exact g_iret C hr hlk hw dX5_leastRemoval_108
    · replace hw := hw.2 c_8
      refine g_iconst C (0 : Int32) dX5_leastRemoval_65 (by decide) ?_
      refine g_istore_n C dX5_leastRemoval_66 rfl (by decide) (lv' := [(3, .int (0 : Int32)), (0, .ref (gh G 17)), (1, .int x1), (2, .int x2)]) rfl ?_
      rw [hP67] at hw
      exact g_perm [1, 2, 3, 0] rfl (hw))
  replace hw := hw (by
    intro x1 x2 x3 st hw
    rw [hP67]
    refine g_iload_n C 3 dX5_leastRemoval_67 rfl rfl ?_
    refine g_iload_n C 1 dX5_leastRemoval_68 rfl rfl ?_
    refine g_icmp_gt C 100 dX5_leastRemoval_69 (by decide) (fun c_18 => ?_) (fun c_18 => ?_)
    · replace hw := hw.1 c_18
      obtain ⟨x2_9, ex2_9⟩ : ∃ z : Int32, z = x2 + (1 : Int32) := ⟨_, rfl⟩
      replace hw := hw x2_9 ex2_9
      refine g_iinc C x2_9 2 dX5_leastRemoval_100 rfl ex2_9.symm (by decide) (lv' := [(2, .int x2_9), (0, .ref (gh G 17)), (1, .int x1), (3, .int x3)]) rfl ?_
      refine g_goto C 54 dX5_leastRemoval_103 (by decide) ?_
      rw [hP54] at hw
      exact g_perm [1, 2, 0] rfl (hw)
    · replace hw := hw.2 c_18
      refine g_iload_n C 3 dX5_leastRemoval_72 rfl rfl ?_
      refine g_callSi C (c_X5_bits l G hO hwin hw) kX5_bits tw_810 rfl rfl ⟨Nat.le_of_ble_eq_true rfl, Nat.le_of_ble_eq_true rfl⟩ (As := [.int x3]) (rest := []) rfl rfl (Nat.le_of_ble_eq_true rfl) dX5_leastRemoval_73 ⟨Nat.le_of_ble_eq_true rfl, Nat.le_of_ble_eq_true rfl⟩ (fun r_11 s_10 hw => ?_)
      refine g_iload_n C 2 dX5_leastRemoval_76 rfl rfl ?_
      refine g_icmp_ne C 94 dX5_leastRemoval_77 (by decide) (fun c_17 => ?_) (fun c_17 => ?_)
      · replace hw := hw.2 c_17
        obtain ⟨x3_12, ex3_12⟩ : ∃ z : Int32, z = x3 + (1 : Int32) := ⟨_, rfl⟩
        replace hw := hw x3_12 ex3_12
        refine g_iinc C x3_12 3 dX5_leastRemoval_94 rfl ex3_12.symm (by decide) (lv' := [(3, .int x3_12), (0, .ref (gh G 17)), (1, .int x1), (2, .int x2)]) rfl ?_
        refine g_goto C 67 dX5_leastRemoval_97 (by decide) ?_
        rw [hP67] at hw
        exact g_perm [1, 2, 3, 0] rfl (hw)
      · replace hw := hw.1 c_17
        refine g_aload_n C 0 dX5_leastRemoval_80 rfl rfl ?_
        refine g_iload_n C 1 dX5_leastRemoval_81 rfl rfl ?_
        refine g_iload_n C 3 dX5_leastRemoval_82 rfl rfl ?_
        refine g_iconst C (-1 : Int32) dX5_leastRemoval_83 (by decide) ?_
        refine g_ixor C dX5_leastRemoval_84 ?_
        refine g_iand C dX5_leastRemoval_85 ?_
        refine g_callVi C (c_X5_isWithoutGain l G hO hwin hw) kX5_isWithoutGain tw_883 (Rv.of C (C.win (by decide) (by decide)) rfl (ci := 5) rfl) rfl rfl ⟨Nat.le_of_ble_eq_true rfl, Nat.le_of_ble_eq_true rfl⟩ (As := [.int (x1 &&& (x3 ^^^ (-1 : Int32)))]) (rest := []) rfl rfl (Nat.le_of_ble_eq_true rfl) dX5_leastRemoval_86 ⟨Nat.le_of_ble_eq_true rfl, Nat.le_of_ble_eq_true rfl⟩ (fun r_14 s_13 hw => ?_)
        refine g_if_eq C 94 dX5_leastRemoval_89 (by decide) (fun c_16 => ?_) (fun c_16 => ?_)
        · replace hw := hw.1 c_16
          obtain ⟨x3_15, ex3_15⟩ : ∃ z : Int32, z = x3 + (1 : Int32) := ⟨_, rfl⟩
          replace hw := hw x3_15 ex3_15
          refine g_iinc C x3_15 3 dX5_leastRemoval_94 rfl ex3_15.symm (by decide) (lv' := [(3, .int x3_15), (0, .ref (gh G 17)), (1, .int x1), (2, .int x2)]) rfl ?_
          refine g_goto C 67 dX5_leastRemoval_97 (by decide) ?_
          rw [hP67] at hw
          exact g_perm [1, 2, 3, 0] rfl (hw)
        · replace hw := hw.2 c_16
          refine g_iload_n C 3 dX5_leastRemoval_92 rfl rfl ?_
          exact g_iret C hr hlk hw dX5_leastRemoval_93)
  refine g_aload_n C 0 dX5_leastRemoval_0 rfl rfl ?_
  refine g_iconst C (1 : Int32) dX5_leastRemoval_1 (by decide) ?_
  refine g_callVv C (c_X5_looks l G hO hwin hw) kX5_looks tw_862 (Rv.of C (C.win (by decide) (by decide)) rfl (ci := 5) rfl) rfl rfl ⟨Nat.le_of_ble_eq_true rfl, Nat.le_of_ble_eq_true rfl⟩ (As := [.int (1 : Int32)]) (rest := []) rfl rfl (Nat.le_of_ble_eq_true rfl) dX5_leastRemoval_2 ⟨Nat.le_of_ble_eq_true rfl, Nat.le_of_ble_eq_true rfl⟩ (fun s_19 hw => ?_)
  refine g_iconst C (0 : Int32) dX5_leastRemoval_5 (by decide) ?_
  refine g_istore_n C dX5_leastRemoval_6 rfl (by decide) (lv' := [(1, .int (0 : Int32)), (0, .ref (gh G 17))]) rfl ?_
  rw [hP7] at hw
  exact g_perm [1, 0] rfl (hw)

set_option maxHeartbeats 4000000 in
set_option maxRecDepth 100000 in
theorem c_X5_historySize (l : Launch) (G : Gp) (hO : gOK G) (hwin : ∀ k, 17 ≤ k → k < 25 → k ∈ gks G)   {st : St} {Q : Int32 → St → Prop} (hw : wp_X5_historySize  st Q) : MI l G yX5_historySize cX5_historySize 1 (some .int) { frames := 0, cells := 0, slots := 0, locals := 0 } [.ref (gh G 17)] st Q := by
  refine MI.of (own := RX5) (lo := 17) (hi := 25) hO hwin (by decide) rfl (Nat.le_of_ble_eq_true rfl) (fun p e s m args below meth c C hr hlk => ?_)
  refine g_lv (lv' := [(0, .ref (gh G 17))]) rfl ?_
  unfold wp_X5_historySize at hw
  refine g_aload_n C 0 dX5_historySize_0 rfl rfl ?_
  refine g_get C inX5 (C.win (by decide) (by decide)) rfl rfl 5 (by decide) tw_628 rfl dX5_historySize_1 ?_
  exact g_iret C hr hlk hw dX5_historySize_4
