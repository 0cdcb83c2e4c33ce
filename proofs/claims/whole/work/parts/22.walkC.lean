set_option maxHeartbeats 4000000 in
set_option maxRecDepth 100000 in
theorem c_X4_isPolicy (l : Launch) (G : Gp) (hO : gOK G) (hwin : ∀ k, 0 ≤ k → k < 17 → k ∈ gks G) {x0 : Int32}  {st : St} {Q : Int32 → St → Prop} (hw : wp_X4_isPolicy x0 st Q) : MI l G yX4_isPolicy cX4_isPolicy 1 (some .boolean) { frames := 0, cells := 0, slots := 0, locals := 0 } [.int x0] st Q := by
  refine MI.of (own := RX4) (lo := 0) (hi := 17) hO hwin (by decide) rfl (Nat.le_of_ble_eq_true rfl) (fun p e s m args below meth c C hr hlk => ?_)
  refine g_lv (lv' := [(0, .int x0)]) rfl ?_
  unfold wp_X4_isPolicy at hw
  refine g_iload_n C 0 dX4_isPolicy_0 rfl rfl ?_
  refine g_if_eq C 9 dX4_isPolicy_1 (by decide) (fun c_2 => ?_) (fun c_2 => ?_)
  · replace hw := hw.1 c_2
    refine g_iconst C (1 : Int32) dX4_isPolicy_9 (by decide) ?_
    refine g_goto C 14 dX4_isPolicy_10 (by decide) ?_
    exact g_zret C hr hlk rfl hw dX4_isPolicy_14
  · replace hw := hw.2 c_2
    refine g_iload_n C 0 dX4_isPolicy_4 rfl rfl ?_
    refine g_iconst C (1 : Int32) dX4_isPolicy_5 (by decide) ?_
    refine g_icmp_ne C 13 dX4_isPolicy_6 (by decide) (fun c_1 => ?_) (fun c_1 => ?_)
    · replace hw := hw.2 c_1
      refine g_iconst C (0 : Int32) dX4_isPolicy_13 (by decide) ?_
      exact g_zret C hr hlk rfl hw dX4_isPolicy_14
    · replace hw := hw.1 c_1
      refine g_iconst C (1 : Int32) dX4_isPolicy_9 (by decide) ?_
      refine g_goto C 14 dX4_isPolicy_10 (by decide) ?_
      exact g_zret C hr hlk rfl hw dX4_isPolicy_14

set_option maxHeartbeats 4000000 in
set_option maxRecDepth 100000 in
theorem c_X4_isEffect (l : Launch) (G : Gp) (hO : gOK G) (hwin : ∀ k, 0 ≤ k → k < 17 → k ∈ gks G) {x0 : Int32}  {st : St} {Q : Int32 → St → Prop} (hw : wp_X4_isEffect x0 st Q) : MI l G yX4_isEffect cX4_isEffect 1 (some .boolean) { frames := 0, cells := 0, slots := 0, locals := 0 } [.int x0] st Q := by
  refine MI.of (own := RX4) (lo := 0) (hi := 17) hO hwin (by decide) rfl (Nat.le_of_ble_eq_true rfl) (fun p e s m args below meth c C hr hlk => ?_)
  refine g_lv (lv' := [(0, .int x0)]) rfl ?_
  unfold wp_X4_isEffect at hw
  refine g_iload_n C 0 dX4_isEffect_0 rfl rfl ?_
  refine g_if_eq C 9 dX4_isEffect_1 (by decide) (fun c_2 => ?_) (fun c_2 => ?_)
  · replace hw := hw.1 c_2
    refine g_iconst C (1 : Int32) dX4_isEffect_9 (by decide) ?_
    refine g_goto C 14 dX4_isEffect_10 (by decide) ?_
    exact g_zret C hr hlk rfl hw dX4_isEffect_14
  · replace hw := hw.2 c_2
    refine g_iload_n C 0 dX4_isEffect_4 rfl rfl ?_
    refine g_iconst C (1 : Int32) dX4_isEffect_5 (by decide) ?_
    refine g_icmp_ne C 13 dX4_isEffect_6 (by decide) (fun c_1 => ?_) (fun c_1 => ?_)
    · replace hw := hw.2 c_1
      refine g_iconst C (0 : Int32) dX4_isEffect_13 (by decide) ?_
      exact g_zret C hr hlk rfl hw dX4_isEffect_14
    · replace hw := hw.1 c_1
      refine g_iconst C (1 : Int32) dX4_isEffect_9 (by decide) ?_
      refine g_goto C 14 dX4_isEffect_10 (by decide) ?_
      exact g_zret C hr hlk rfl hw dX4_isEffect_14

set_option maxHeartbeats 4000000 in
set_option maxRecDepth 100000 in
theorem c_X4_isAttribute (l : Launch) (G : Gp) (hO : gOK G) (hwin : ∀ k, 0 ≤ k → k < 17 → k ∈ gks G) {x0 : Int32}  {st : St} {Q : Int32 → St → Prop} (hw : wp_X4_isAttribute x0 st Q) : MI l G yX4_isAttribute cX4_isAttribute 1 (some .boolean) { frames := 0, cells := 0, slots := 0, locals := 0 } [.int x0] st Q := by
  refine MI.of (own := RX4) (lo := 0) (hi := 17) hO hwin (by decide) rfl (Nat.le_of_ble_eq_true rfl) (fun p e s m args below meth c C hr hlk => ?_)
  refine g_lv (lv' := [(0, .int x0)]) rfl ?_
  unfold wp_X4_isAttribute at hw
  refine g_iload_n C 0 dX4_isAttribute_0 rfl rfl ?_
  refine g_if_lt C 13 dX4_isAttribute_1 (by decide) (fun c_2 => ?_) (fun c_2 => ?_)
  · replace hw := hw.1 c_2
    refine g_iconst C (0 : Int32) dX4_isAttribute_13 (by decide) ?_
    exact g_zret C hr hlk rfl hw dX4_isAttribute_14
  · replace hw := hw.2 c_2
    refine g_iload_n C 0 dX4_isAttribute_4 rfl rfl ?_
    refine g_iconst C (4 : Int32) dX4_isAttribute_5 (by decide) ?_
    refine g_icmp_ge C 13 dX4_isAttribute_6 (by decide) (fun c_1 => ?_) (fun c_1 => ?_)
    · replace hw := hw.1 c_1
      refine g_iconst C (0 : Int32) dX4_isAttribute_13 (by decide) ?_
      exact g_zret C hr hlk rfl hw dX4_isAttribute_14
    · replace hw := hw.2 c_1
      refine g_iconst C (1 : Int32) dX4_isAttribute_9 (by decide) ?_
      refine g_goto C 14 dX4_isAttribute_10 (by decide) ?_
      exact g_zret C hr hlk rfl hw dX4_isAttribute_14

set_option maxHeartbeats 4000000 in
set_option maxRecDepth 100000 in
theorem c_X4_isRequest (l : Launch) (G : Gp) (hO : gOK G) (hwin : ∀ k, 0 ≤ k → k < 17 → k ∈ gks G) {x0 : Int32}  {st : St} {Q : Int32 → St → Prop} (hw : wp_X4_isRequest x0 st Q) : MI l G yX4_isRequest cX4_isRequest 1 (some .boolean) { frames := 0, cells := 0, slots := 0, locals := 0 } [.int x0] st Q := by
  refine MI.of (own := RX4) (lo := 0) (hi := 17) hO hwin (by decide) rfl (Nat.le_of_ble_eq_true rfl) (fun p e s m args below meth c C hr hlk => ?_)
  refine g_lv (lv' := [(0, .int x0)]) rfl ?_
  unfold wp_X4_isRequest at hw
  refine g_iload_n C 0 dX4_isRequest_0 rfl rfl ?_
  refine g_if_lt C 15 dX4_isRequest_1 (by decide) (fun c_2 => ?_) (fun c_2 => ?_)
  · replace hw := hw.1 c_2
    refine g_iconst C (0 : Int32) dX4_isRequest_15 (by decide) ?_
    exact g_zret C hr hlk rfl hw dX4_isRequest_16
  · replace hw := hw.2 c_2
    refine g_iload_n C 0 dX4_isRequest_4 rfl rfl ?_
    refine g_sipush C (1024 : Int32) dX4_isRequest_5 (by decide) ?_
    refine g_icmp_ge C 15 dX4_isRequest_8 (by decide) (fun c_1 => ?_) (fun c_1 => ?_)
    · replace hw := hw.1 c_1
      refine g_iconst C (0 : Int32) dX4_isRequest_15 (by decide) ?_
      exact g_zret C hr hlk rfl hw dX4_isRequest_16
    · replace hw := hw.2 c_1
      refine g_iconst C (1 : Int32) dX4_isRequest_11 (by decide) ?_
      refine g_goto C 16 dX4_isRequest_12 (by decide) ?_
      exact g_zret C hr hlk rfl hw dX4_isRequest_16

set_option maxHeartbeats 4000000 in
set_option maxRecDepth 100000 in
theorem c_X4_isDecision (l : Launch) (G : Gp) (hO : gOK G) (hwin : ∀ k, 0 ≤ k → k < 17 → k ∈ gks G) {x0 : Int32}  {st : St} {Q : Int32 → St → Prop} (hw : wp_X4_isDecision x0 st Q) : MI l G yX4_isDecision cX4_isDecision 1 (some .boolean) { frames := 0, cells := 0, slots := 0, locals := 0 } [.int x0] st Q := by
  refine MI.of (own := RX4) (lo := 0) (hi := 17) hO hwin (by decide) rfl (Nat.le_of_ble_eq_true rfl) (fun p e s m args below meth c C hr hlk => ?_)
  refine g_lv (lv' := [(0, .int x0)]) rfl ?_
  unfold wp_X4_isDecision at hw
  refine g_iload_n C 0 dX4_isDecision_0 rfl rfl ?_
  refine g_if_lt C 13 dX4_isDecision_1 (by decide) (fun c_2 => ?_) (fun c_2 => ?_)
  · replace hw := hw.1 c_2
    refine g_iconst C (0 : Int32) dX4_isDecision_13 (by decide) ?_
    exact g_zret C hr hlk rfl hw dX4_isDecision_14
  · replace hw := hw.2 c_2
    refine g_iload_n C 0 dX4_isDecision_4 rfl rfl ?_
    refine g_iconst C (3 : Int32) dX4_isDecision_5 (by decide) ?_
    refine g_icmp_gt C 13 dX4_isDecision_6 (by decide) (fun c_1 => ?_) (fun c_1 => ?_)
    · replace hw := hw.1 c_1
      refine g_iconst C (0 : Int32) dX4_isDecision_13 (by decide) ?_
      exact g_zret C hr hlk rfl hw dX4_isDecision_14
    · replace hw := hw.2 c_1
      refine g_iconst C (1 : Int32) dX4_isDecision_9 (by decide) ?_
      refine g_goto C 14 dX4_isDecision_10 (by decide) ?_
      exact g_zret C hr hlk rfl hw dX4_isDecision_14

set_option maxHeartbeats 4000000 in
set_option maxRecDepth 100000 in
theorem c_X4_isValueSet (l : Launch) (G : Gp) (hO : gOK G) (hwin : ∀ k, 0 ≤ k → k < 17 → k ∈ gks G) {x0 : Int32} {x1 : Int32}  {st : St} {Q : Int32 → St → Prop} (hw : wp_X4_isValueSet x0 x1 st Q) : MI l G yX4_isValueSet cX4_isValueSet 2 (some .boolean) { frames := 0, cells := 0, slots := 0, locals := 0 } [.int x0, .int x1] st Q := by
  refine MI.of (own := RX4) (lo := 0) (hi := 17) hO hwin (by decide) rfl (Nat.le_of_ble_eq_true rfl) (fun p e s m args below meth c C hr hlk => ?_)
  refine g_lv (lv' := [(0, .int x0), (1, .int x1)]) rfl ?_
  unfold wp_X4_isValueSet at hw
  refine g_iload_n C 1 dX4_isValueSet_0 rfl rfl ?_
  refine g_if_le C 19 dX4_isValueSet_1 (by decide) (fun c_2 => ?_) (fun c_2 => ?_)
  · replace hw := hw.1 c_2
    refine g_iconst C (0 : Int32) dX4_isValueSet_19 (by decide) ?_
    exact g_zret C hr hlk rfl hw dX4_isValueSet_20
  · replace hw := hw.2 c_2
    refine g_iload_n C 1 dX4_isValueSet_4 rfl rfl ?_
    refine g_iconst C (1 : Int32) dX4_isValueSet_5 (by decide) ?_
    refine g_gets C (fun h => h.1.1) tw_405 dX4_isValueSet_6 ?_
    refine g_iload_n C 0 dX4_isValueSet_9 rfl rfl ?_
    refine g_ti C (fun h => h.1.2) hw.1 dX4_isValueSet_10 ?_
    replace hw := hw.2
    refine g_ishl C dX4_isValueSet_11 ?_
    refine g_icmp_ge C 19 dX4_isValueSet_12 (by decide) (fun c_1 => ?_) (fun c_1 => ?_)
    · replace hw := hw.1 c_1
      refine g_iconst C (0 : Int32) dX4_isValueSet_19 (by decide) ?_
      exact g_zret C hr hlk rfl hw dX4_isValueSet_20
    · replace hw := hw.2 c_1
      refine g_iconst C (1 : Int32) dX4_isValueSet_15 (by decide) ?_
      refine g_goto C 20 dX4_isValueSet_16 (by decide) ?_
      exact g_zret C hr hlk rfl hw dX4_isValueSet_20

set_option maxHeartbeats 4000000 in
set_option maxRecDepth 100000 in
theorem c_X4_policyNumbered (l : Launch) (G : Gp) (hO : gOK G) (hwin : ∀ k, 0 ≤ k → k < 17 → k ∈ gks G) {x1 : Int32}  {st : St} {Q : Nat → St → Prop} (hw : wp_X4_policyNumbered x1 st Q) : MR l G yX4_policyNumbered cX4_policyNumbered 2 (some (.object "PolicyComparer$Policy")) { frames := 0, cells := 0, slots := 0, locals := 0 } [.ref (gh G 0), .int x1] st Q := by
  refine MR.of (own := RX4) (lo := 0) (hi := 17) hO hwin (by decide) rfl (Nat.le_of_ble_eq_true rfl) (fun p e s m args below meth c C hr hlk => ?_)
  refine g_lv (lv' := [(0, .ref (gh G 0)), (1, .int x1)]) rfl ?_
  unfold wp_X4_policyNumbered at hw
  refine g_iload_n C 1 dX4_policyNumbered_0 rfl rfl ?_
  refine g_if_ne C 11 dX4_policyNumbered_1 (by decide) (fun c_1 => ?_) (fun c_1 => ?_)
  · replace hw := hw.2 c_1
    refine g_aload_n C 0 dX4_policyNumbered_11 rfl rfl ?_
    refine g_get C inX4 (C.win (by decide) (by decide)) rfl rfl 1 (by decide) tw_290 rfl dX4_policyNumbered_12 ?_
    exact g_aret C hr hlk hw dX4_policyNumbered_15
  · replace hw := hw.1 c_1
    refine g_aload_n C 0 dX4_policyNumbered_4 rfl rfl ?_
    refine g_get C inX4 (C.win (by decide) (by decide)) rfl rfl 0 (by decide) tw_289 rfl dX4_policyNumbered_5 ?_
    refine g_goto C 15 dX4_policyNumbered_8 (by decide) ?_
    exact g_aret C hr hlk hw dX4_policyNumbered_15

set_option maxHeartbeats 4000000 in
set_option maxRecDepth 100000 in
theorem c_X4_isRule (l : Launch) (G : Gp) (hO : gOK G) (hwin : ∀ k, 0 ≤ k → k < 17 → k ∈ gks G) {x1 : Int32} {x2 : Int32}  {st : St} {Q : Int32 → St → Prop} (hw : wp_X4_isRule x1 x2 st Q) : MI l G yX4_isRule cX4_isRule 3 (some .boolean) { frames := 1, cells := 0, slots := 0, locals := 21 } [.ref (gh G 0), .int x1, .int x2] st Q := by
  refine MI.of (own := RX4) (lo := 0) (hi := 17) hO hwin (by decide) rfl (Nat.le_of_ble_eq_true rfl) (fun p e s m args below meth c C hr hlk => ?_)
  refine g_lv (lv' := [(0, .ref (gh G 0)), (1, .int x1), (2, .int x2)]) rfl ?_
  unfold wp_X4_isRule at hw
  refine g_iload_n C 1 dX4_isRule_0 rfl rfl ?_
  refine g_callSi C (c_X4_isPolicy l G hO hwin hw) kX4_isPolicy tw_335 rfl rfl ⟨Nat.le_of_ble_eq_true rfl, Nat.le_of_ble_eq_true rfl⟩ (As := [.int x1]) (rest := []) rfl rfl (Nat.le_of_ble_eq_true rfl) dX4_isRule_1 ⟨Nat.le_of_ble_eq_true rfl, Nat.le_of_ble_eq_true rfl⟩ (fun r_2 s_1 hw => ?_)
  refine g_if_eq C 27 dX4_isRule_4 (by decide) (fun c_9 => ?_) (fun c_9 => ?_)
  · replace hw := hw.1 c_9
    refine g_iconst C (0 : Int32) dX4_isRule_27 (by decide) ?_
    exact g_zret C hr hlk rfl hw dX4_isRule_28
  · replace hw := hw.2 c_9
    refine g_iload_n C 2 dX4_isRule_7 rfl rfl ?_
    refine g_if_lt C 27 dX4_isRule_8 (by decide) (fun c_8 => ?_) (fun c_8 => ?_)
    · replace hw := hw.1 c_8
      refine g_iconst C (0 : Int32) dX4_isRule_27 (by decide) ?_
      exact g_zret C hr hlk rfl hw dX4_isRule_28
    · replace hw := hw.2 c_8
      refine g_iload_n C 2 dX4_isRule_11 rfl rfl ?_
      refine g_aload_n C 0 dX4_isRule_12 rfl rfl ?_
      refine g_iload_n C 1 dX4_isRule_13 rfl rfl ?_
      refine g_callVr C (c_X4_policyNumbered l G hO hwin hw) kX4_policyNumbered tw_341 (Rv.of C (C.win (by decide) (by decide)) rfl (ci := 4) rfl) rfl rfl ⟨Nat.le_of_ble_eq_true rfl, Nat.le_of_ble_eq_true rfl⟩ (As := [.int x1]) (rest := [.int x2]) rfl rfl (Nat.le_of_ble_eq_true rfl) dX4_isRule_14 ⟨Nat.le_of_ble_eq_true rfl, Nat.le_of_ble_eq_true rfl⟩ (fun k_4 s_3 hw => ?_)
      have hk_4 := hw.1
      replace hw := hw.2
      refine g_callVi C (c_X1_size l G hO hwin hk_4 hw) kX1_size tw_330 (Rv.of C (C.pol hk_4) (isPol.cell hk_4 G _) (ci := 1) rfl) rfl rfl ⟨Nat.le_of_ble_eq_true rfl, Nat.le_of_ble_eq_true rfl⟩ (As := []) (rest := [.int x2]) rfl rfl (Nat.le_of_ble_eq_true rfl) dX4_isRule_17 ⟨Nat.le_of_ble_eq_true rfl, Nat.le_of_ble_eq_true rfl⟩ (fun r_6 s_5 hw => ?_)
      refine g_icmp_ge C 27 dX4_isRule_20 (by decide) (fun c_7 => ?_) (fun c_7 => ?_)
      · replace hw := hw.1 c_7
        refine g_iconst C (0 : Int32) dX4_isRule_27 (by decide) ?_
        exact g_zret C hr hlk rfl hw dX4_isRule_28
      · replace hw := hw.2 c_7
        refine g_iconst C (1 : Int32) dX4_isRule_23 (by decide) ?_
        refine g_goto C 28 dX4_isRule_24 (by decide) ?_
        exact g_zret C hr hlk rfl hw dX4_isRule_28

set_option maxHeartbeats 4000000 in
set_option maxRecDepth 100000 in
theorem c_X4_valueIn (l : Launch) (G : Gp) (hO : gOK G) (hwin : ∀ k, 0 ≤ k → k < 17 → k ∈ gks G) {x0 : Int32} {x1 : Int32}  {st : St} {Q : Int32 → St → Prop} (hw : wp_X4_valueIn x0 x1 st Q) : MI l G yX4_valueIn cX4_valueIn 2 (some .int) { frames := 0, cells := 0, slots := 0, locals := 0 } [.int x0, .int x1] st Q := by
  refine MI.of (own := RX4) (lo := 0) (hi := 17) hO hwin (by decide) rfl (Nat.le_of_ble_eq_true rfl) (fun p e s m args below meth c C hr hlk => ?_)
  refine g_lv (lv' := [(0, .int x0), (1, .int x1)]) rfl ?_
  unfold wp_X4_valueIn at hw
  refine g_iload_n C 0 dX4_valueIn_0 rfl rfl ?_
  refine g_gets C (fun h => h.2.1.1) tw_527 dX4_valueIn_1 ?_
  refine g_iload_n C 1 dX4_valueIn_4 rfl rfl ?_
  refine g_ti C (fun h => h.2.1.2) hw.1 dX4_valueIn_5 ?_
  replace hw := hw.2
  refine g_ishr C dX4_valueIn_6 ?_
  refine g_gets C (fun h => h.1.1) tw_405 dX4_valueIn_7 ?_
  refine g_iload_n C 1 dX4_valueIn_10 rfl rfl ?_
  refine g_ti C (fun h => h.1.2) hw.1 dX4_valueIn_11 ?_
  replace hw := hw.2
  refine g_iconst C (1 : Int32) dX4_valueIn_12 (by decide) ?_
  refine g_isub C dX4_valueIn_13 ?_
  refine g_iand C dX4_valueIn_14 ?_
  exact g_iret C hr hlk hw dX4_valueIn_15

set_option maxHeartbeats 4000000 in
set_option maxRecDepth 100000 in
theorem c_X4_takeDrafts (l : Launch) (G : Gp) (hO : gOK G) (hwin : ∀ k, 0 ≤ k → k < 17 → k ∈ gks G)   {st : St} {Q : St → Prop} (hw : wp_X4_takeDrafts  st Q) : MV l G yX4_takeDrafts cX4_takeDrafts 1 { frames := 2, cells := 0, slots := 0, locals := 39 } [.ref (gh G 0)] st Q := by
  refine MV.of (own := RX4) (lo := 0) (hi := 17) hO hwin (by decide) rfl (Nat.le_of_ble_eq_true rfl) (fun p e s m args below meth c C hr hlk => ?_)
  refine g_lv (lv' := [(0, .ref (gh G 0))]) rfl ?_
  unfold wp_X4_takeDrafts at hw
  refine g_aload_n C 0 dX4_takeDrafts_0 rfl rfl ?_
  refine g_get C inX4 (C.win (by decide) (by decide)) rfl rfl 0 (by decide) tw_289 rfl dX4_takeDrafts_1 ?_
  refine g_aload_n C 0 dX4_takeDrafts_4 rfl rfl ?_
  refine g_get C inX4 (C.win (by decide) (by decide)) rfl rfl 2 (by decide) tw_291 rfl dX4_takeDrafts_5 ?_
  refine g_callVr C (c_X2_oldDraft l G hO hwin hw) kX2_oldDraft tw_270 (Rv.of C (C.win (by decide) (by decide)) rfl (ci := 2) rfl) rfl rfl ⟨Nat.le_of_ble_eq_true rfl, Nat.le_of_ble_eq_true rfl⟩ (As := []) (rest := [.ref (gh G 1)]) rfl rfl (Nat.le_of_ble_eq_true rfl) dX4_takeDrafts_8 ⟨Nat.le_of_ble_eq_true rfl, Nat.le_of_ble_eq_true rfl⟩ (fun k_2 s_1 hw => ?_)
  have hk_2 := hw.1
  replace hw := hw.2
  refine g_callVv C (c_X1_copyFrom l G hO hwin (Or.inl rfl) hk_2 hw) kX1_copyFrom tw_274 (Rv.of C (C.pol (Or.inl rfl)) (isPol.cell (Or.inl rfl) G _) (ci := 1) rfl) rfl rfl ⟨Nat.le_of_ble_eq_true rfl, Nat.le_of_ble_eq_true rfl⟩ (As := [.ref (gh G k_2)]) (rest := []) rfl rfl (Nat.le_of_ble_eq_true rfl) dX4_takeDrafts_11 ⟨Nat.le_of_ble_eq_true rfl, Nat.le_of_ble_eq_true rfl⟩ (fun s_3 hw => ?_)
  refine g_aload_n C 0 dX4_takeDrafts_14 rfl rfl ?_
  refine g_get C inX4 (C.win (by decide) (by decide)) rfl rfl 1 (by decide) tw_290 rfl dX4_takeDrafts_15 ?_
  refine g_aload_n C 0 dX4_takeDrafts_18 rfl rfl ?_
  refine g_get C inX4 (C.win (by decide) (by decide)) rfl rfl 2 (by decide) tw_291 rfl dX4_takeDrafts_19 ?_
  refine g_callVr C (c_X2_newDraft l G hO hwin hw) kX2_newDraft tw_281 (Rv.of C (C.win (by decide) (by decide)) rfl (ci := 2) rfl) rfl rfl ⟨Nat.le_of_ble_eq_true rfl, Nat.le_of_ble_eq_true rfl⟩ (As := []) (rest := [.ref (gh G 3)]) rfl rfl (Nat.le_of_ble_eq_true rfl) dX4_takeDrafts_22 ⟨Nat.le_of_ble_eq_true rfl, Nat.le_of_ble_eq_true rfl⟩ (fun k_5 s_4 hw => ?_)
  have hk_5 := hw.1
  replace hw := hw.2
  refine g_callVv C (c_X1_copyFrom l G hO hwin (Or.inr (Or.inl rfl)) hk_5 hw) kX1_copyFrom tw_274 (Rv.of C (C.pol (Or.inr (Or.inl rfl))) (isPol.cell (Or.inr (Or.inl rfl)) G _) (ci := 1) rfl) rfl rfl ⟨Nat.le_of_ble_eq_true rfl, Nat.le_of_ble_eq_true rfl⟩ (As := [.ref (gh G k_5)]) (rest := []) rfl rfl (Nat.le_of_ble_eq_true rfl) dX4_takeDrafts_25 ⟨Nat.le_of_ble_eq_true rfl, Nat.le_of_ble_eq_true rfl⟩ (fun s_6 hw => ?_)
  exact g_vret C hr hlk hw dX4_takeDrafts_28

set_option maxHeartbeats 4000000 in
set_option maxRecDepth 100000 in
theorem c_X4_requestsDecided (l : Launch) (G : Gp) (hO : gOK G) (hwin : ∀ k, 0 ≤ k → k < 17 → k ∈ gks G) {k0 : Nat} {x1 : Int32} (hk0 : isPol k0) {st : St} {Q : Int32 → St → Prop} (hw : wp_X4_requestsDecided k0 x1 st Q) : MI l G yX4_requestsDecided cX4_requestsDecided 4 (some .int) { frames := 3, cells := 0, slots := 0, locals := 64 } [.ref (gh G k0), .int x1] st Q := by
  refine MI.of (own := RX4) (lo := 0) (hi := 17) hO hwin (by decide) rfl (Nat.le_of_ble_eq_true rfl) (fun p e s m args below meth c C hr hlk => ?_)
  refine g_lv (lv' := [(0, .ref (gh G k0)), (1, .int x1)]) rfl ?_
  unfold wp_X4_requestsDecided at hw
  obtain ⟨P4, hP4⟩ : ∃ P : Int32 → Int32 → St → Prop, P = fun x2 x3 st => WG p l e ({ frames := 3, cells := 0, slots := 0, locals := 64 } : Room) s m args below meth c 0 0 (MQ below (va_Qi Q (gB G) (gA G)) args s 0 0 (gA G)) G 4 4 [(0, .ref (gh G k0)), (1, .int x1), (2, .int x2), (3, .int x3)] [] st := ⟨_, rfl⟩
  replace hw := hw P4
  replace hw := hw (by
    intro x2 x3 st hw
    rw [hP4]
    refine g_iload_n C 3 dX4_requestsDecided_4 rfl rfl ?_
    refine g_sipush C (1024 : Int32) dX4_requestsDecided_5 (by decide) ?_
    refine g_icmp_ge C 29 dX4_requestsDecided_8 (by decide) (fun c_7 => ?_) (fun c_7 => ?_)
    · replace hw := hw.1 c_7
      refine g_iload_n C 2 dX4_requestsDecided_29 rfl rfl ?_
      exact g_iret C hr hlk hw dX4_requestsDecided_30
    · replace hw := hw.2 c_7
      refine g_aload_n C 0 dX4_requestsDecided_11 rfl rfl ?_
      refine g_iload_n C 3 dX4_requestsDecided_12 rfl rfl ?_
      refine g_callVi C (c_X1_decisionOn l G hO hwin hk0 hw) kX1_decisionOn tw_466 (Rv.of C (C.pol hk0) (isPol.cell hk0 G _) (ci := 1) rfl) rfl rfl ⟨Nat.le_of_ble_eq_true rfl, Nat.le_of_ble_eq_true rfl⟩ (As := [.int x3]) (rest := []) rfl rfl (Nat.le_of_ble_eq_true rfl) dX4_requestsDecided_13 ⟨Nat.le_of_ble_eq_true rfl, Nat.le_of_ble_eq_true rfl⟩ (fun r_2 s_1 hw => ?_)
      refine g_iload_n C 1 dX4_requestsDecided_16 rfl rfl ?_
      refine g_icmp_ne C 23 dX4_requestsDecided_17 (by decide) (fun c_6 => ?_) (fun c_6 => ?_)
      · replace hw := hw.2 c_6
        obtain ⟨x3_3, ex3_3⟩ : ∃ z : Int32, z = x3 + (1 : Int32) := ⟨_, rfl⟩
        replace hw := hw x3_3 ex3_3
        refine g_iinc C x3_3 3 dX4_requestsDecided_23 rfl ex3_3.symm (by decide) (lv' := [(3, .int x3_3), (0, .ref (gh G k0)), (1, .int x1), (2, .int x2)]) rfl ?_
        refine g_goto C 4 dX4_requestsDecided_26 (by decide) ?_
        rw [hP4] at hw
        exact g_perm [1, 2, 3, 0] rfl (hw)
      · replace hw := hw.1 c_6
        obtain ⟨x2_4, ex2_4⟩ : ∃ z : Int32, z = x2 + (1 : Int32) := ⟨_, rfl⟩
        replace hw := hw x2_4 ex2_4
        refine g_iinc C x2_4 2 dX4_requestsDecided_20 rfl ex2_4.symm (by decide) (lv' := [(2, .int x2_4), (0, .ref (gh G k0)), (1, .int x1), (3, .int x3)]) rfl ?_
        obtain ⟨x3_5, ex3_5⟩ : ∃ z : Int32, z = x3 + (1 : Int32) := ⟨_, rfl⟩
        replace hw := hw x3_5 ex3_5
        refine g_iinc C x3_5 3 dX4_requestsDecided_23 rfl ex3_5.symm (by decide) (lv' := [(3, .int x3_5), (2, .int x2_4), (0, .ref (gh G k0)), (1, .int x1)]) rfl ?_
        refine g_goto C 4 dX4_requestsDecided_26 (by decide) ?_
        rw [hP4] at hw
        exact g_perm [2, 3, 1, 0] rfl (hw))
  refine g_iconst C (0 : Int32) dX4_requestsDecided_0 (by decide) ?_
  refine g_istore_n C dX4_requestsDecided_1 rfl (by decide) (lv' := [(2, .int (0 : Int32)), (0, .ref (gh G k0)), (1, .int x1)]) rfl ?_
  refine g_iconst C (0 : Int32) dX4_requestsDecided_2 (by decide) ?_
  refine g_istore_n C dX4_requestsDecided_3 rfl (by decide) (lv' := [(3, .int (0 : Int32)), (2, .int (0 : Int32)), (0, .ref (gh G k0)), (1, .int x1)]) rfl ?_
  rw [hP4] at hw
  exact g_perm [2, 3, 1, 0] rfl (hw)

set_option maxHeartbeats 4000000 in
set_option maxRecDepth 100000 in
theorem c_X4_isGrantedOnlyBy (l : Launch) (G : Gp) (hO : gOK G) (hwin : ∀ k, 0 ≤ k → k < 17 → k ∈ gks G) {k0 : Nat} {k1 : Nat} {x2 : Int32} (hk0 : isPol k0) (hk1 : isPol k1) {st : St} {Q : Int32 → St → Prop} (hw : wp_X4_isGrantedOnlyBy k0 k1 x2 st Q) : MI l G yX4_isGrantedOnlyBy cX4_isGrantedOnlyBy 3 (some .boolean) { frames := 3, cells := 0, slots := 0, locals := 64 } [.ref (gh G k0), .ref (gh G k1), .int x2] st Q := by
  refine MI.of (own := RX4) (lo := 0) (hi := 17) hO hwin (by decide) rfl (Nat.le_of_ble_eq_true rfl) (fun p e s m args below meth c C hr hlk => ?_)
  refine g_lv (lv' := [(0, .ref (gh G k0)), (1, .ref (gh G k1)), (2, .int x2)]) rfl ?_
  unfold wp_X4_isGrantedOnlyBy at hw
  refine g_aload_n C 0 dX4_isGrantedOnlyBy_0 rfl rfl ?_
  refine g_iload_n C 2 dX4_isGrantedOnlyBy_1 rfl rfl ?_
  refine g_callVi C (c_X1_decisionOn l G hO hwin hk0 hw) kX1_decisionOn tw_466 (Rv.of C (C.pol hk0) (isPol.cell hk0 G _) (ci := 1) rfl) rfl rfl ⟨Nat.le_of_ble_eq_true rfl, Nat.le_of_ble_eq_true rfl⟩ (As := [.int x2]) (rest := []) rfl rfl (Nat.le_of_ble_eq_true rfl) dX4_isGrantedOnlyBy_2 ⟨Nat.le_of_ble_eq_true rfl, Nat.le_of_ble_eq_true rfl⟩ (fun r_2 s_1 hw => ?_)
  refine g_if_ne C 20 dX4_isGrantedOnlyBy_5 (by decide) (fun c_6 => ?_) (fun c_6 => ?_)
  · replace hw := hw.2 c_6
    refine g_iconst C (0 : Int32) dX4_isGrantedOnlyBy_20 (by decide) ?_
    exact g_zret C hr hlk rfl hw dX4_isGrantedOnlyBy_21
  · replace hw := hw.1 c_6
    refine g_aload_n C 1 dX4_isGrantedOnlyBy_8 rfl rfl ?_
    refine g_iload_n C 2 dX4_isGrantedOnlyBy_9 rfl rfl ?_
    refine g_callVi C (c_X1_decisionOn l G hO hwin hk1 hw) kX1_decisionOn tw_466 (Rv.of C (C.pol hk1) (isPol.cell hk1 G _) (ci := 1) rfl) rfl rfl ⟨Nat.le_of_ble_eq_true rfl, Nat.le_of_ble_eq_true rfl⟩ (As := [.int x2]) (rest := []) rfl rfl (Nat.le_of_ble_eq_true rfl) dX4_isGrantedOnlyBy_10 ⟨Nat.le_of_ble_eq_true rfl, Nat.le_of_ble_eq_true rfl⟩ (fun r_4 s_3 hw => ?_)
    refine g_if_eq C 20 dX4_isGrantedOnlyBy_13 (by decide) (fun c_5 => ?_) (fun c_5 => ?_)
    · replace hw := hw.1 c_5
      refine g_iconst C (0 : Int32) dX4_isGrantedOnlyBy_20 (by decide) ?_
      exact g_zret C hr hlk rfl hw dX4_isGrantedOnlyBy_21
    · replace hw := hw.2 c_5
      refine g_iconst C (1 : Int32) dX4_isGrantedOnlyBy_16 (by decide) ?_
      refine g_goto C 21 dX4_isGrantedOnlyBy_17 (by decide) ?_
      exact g_zret C hr hlk rfl hw dX4_isGrantedOnlyBy_21

set_option maxHeartbeats 4000000 in
set_option maxRecDepth 100000 in
theorem c_X4_countGranted (l : Launch) (G : Gp) (hO : gOK G) (hwin : ∀ k, 0 ≤ k → k < 17 → k ∈ gks G) {k0 : Nat} {k1 : Nat} (hk0 : isPol k0) (hk1 : isPol k1) {st : St} {Q : Int32 → St → Prop} (hw : wp_X4_countGranted k0 k1 st Q) : MI l G yX4_countGranted cX4_countGranted 4 (some .int) { frames := 4, cells := 0, slots := 0, locals := 86 } [.ref (gh G k0), .ref (gh G k1)] st Q := by
  refine MI.of (own := RX4) (lo := 0) (hi := 17) hO hwin (by decide) rfl (Nat.le_of_ble_eq_true rfl) (fun p e s m args below meth c C hr hlk => ?_)
  refine g_lv (lv' := [(0, .ref (gh G k0)), (1, .ref (gh G k1))]) rfl ?_
  unfold wp_X4_countGranted at hw
  obtain ⟨P4, hP4⟩ : ∃ P : Int32 → Int32 → St → Prop, P = fun x2 x3 st => WG p l e ({ frames := 4, cells := 0, slots := 0, locals := 86 } : Room) s m args below meth c 0 0 (MQ below (va_Qi Q (gB G) (gA G)) args s 0 0 (gA G)) G 4 4 [(0, .ref (gh G k0)), (1, .ref (gh G k1)), (2, .int x2), (3, .int x3)] [] st := ⟨_, rfl⟩
  replace hw := hw P4
  replace hw := hw (by
    intro x2 x3 st hw
    rw [hP4]
    refine g_iload_n C 3 dX4_countGranted_4 rfl rfl ?_
    refine g_sipush C (1024 : Int32) dX4_countGranted_5 (by decide) ?_
    refine g_icmp_ge C 29 dX4_countGranted_8 (by decide) (fun c_7 => ?_) (fun c_7 => ?_)
    · replace hw := hw.1 c_7
      refine g_iload_n C 2 dX4_countGranted_29 rfl rfl ?_
      exact g_iret C hr hlk hw dX4_countGranted_30
    · replace hw := hw.2 c_7
      refine g_aload_n C 0 dX4_countGranted_11 rfl rfl ?_
      refine g_aload_n C 1 dX4_countGranted_12 rfl rfl ?_
      refine g_iload_n C 3 dX4_countGranted_13 rfl rfl ?_
      refine g_callSi C (c_X4_isGrantedOnlyBy l G hO hwin hk0 hk1 hw) kX4_isGrantedOnlyBy tw_513 rfl rfl ⟨Nat.le_of_ble_eq_true rfl, Nat.le_of_ble_eq_true rfl⟩ (As := [.ref (gh G k0), .ref (gh G k1), .int x3]) (rest := []) rfl rfl (Nat.le_of_ble_eq_true rfl) dX4_countGranted_14 ⟨Nat.le_of_ble_eq_true rfl, Nat.le_of_ble_eq_true rfl⟩ (fun r_2 s_1 hw => ?_)
      refine g_if_eq C 23 dX4_countGranted_17 (by decide) (fun c_6 => ?_) (fun c_6 => ?_)
      · replace hw := hw.1 c_6
        obtain ⟨x3_3, ex3_3⟩ : ∃ z : Int32, z = x3 + (1 : Int32) := ⟨_, rfl⟩
        replace hw := hw x3_3 ex3_3
        refine g_iinc C x3_3 3 dX4_countGranted_23 rfl ex3_3.symm (by decide) (lv' := [(3, .int x3_3), (0, .ref (gh G k0)), (1, .ref (gh G k1)), (2, .int x2)]) rfl ?_
        refine g_goto C 4 dX4_countGranted_26 (by decide) ?_
        rw [hP4] at hw
        exact g_perm [1, 2, 3, 0] rfl (hw)
      · replace hw := hw.2 c_6
        obtain ⟨x2_4, ex2_4⟩ : ∃ z : Int32, z = x2 + (1 : Int32) := ⟨_, rfl⟩
        replace hw := hw x2_4 ex2_4
        refine g_iinc C x2_4 2 dX4_countGranted_20 rfl ex2_4.symm (by decide) (lv' := [(2, .int x2_4), (0, .ref (gh G k0)), (1, .ref (gh G k1)), (3, .int x3)]) rfl ?_
        obtain ⟨x3_5, ex3_5⟩ : ∃ z : Int32, z = x3 + (1 : Int32) := ⟨_, rfl⟩
        replace hw := hw x3_5 ex3_5
        refine g_iinc C x3_5 3 dX4_countGranted_23 rfl ex3_5.symm (by decide) (lv' := [(3, .int x3_5), (2, .int x2_4), (0, .ref (gh G k0)), (1, .ref (gh G k1))]) rfl ?_
        refine g_goto C 4 dX4_countGranted_26 (by decide) ?_
        rw [hP4] at hw
        exact g_perm [2, 3, 1, 0] rfl (hw))
  refine g_iconst C (0 : Int32) dX4_countGranted_0 (by decide) ?_
  refine g_istore_n C dX4_countGranted_1 rfl (by decide) (lv' := [(2, .int (0 : Int32)), (0, .ref (gh G k0)), (1, .ref (gh G k1))]) rfl ?_
  refine g_iconst C (0 : Int32) dX4_countGranted_2 (by decide) ?_
  refine g_istore_n C dX4_countGranted_3 rfl (by decide) (lv' := [(3, .int (0 : Int32)), (2, .int (0 : Int32)), (0, .ref (gh G k0)), (1, .ref (gh G k1))]) rfl ?_
  rw [hP4] at hw
  exact g_perm [2, 3, 1, 0] rfl (hw)

set_option maxHeartbeats 4000000 in
set_option maxRecDepth 100000 in
theorem c_X4_nextGranted (l : Launch) (G : Gp) (hO : gOK G) (hwin : ∀ k, 0 ≤ k → k < 17 → k ∈ gks G) {k0 : Nat} {k1 : Nat} {x2 : Int32} (hk0 : isPol k0) (hk1 : isPol k1) {st : St} {Q : Int32 → St → Prop} (hw : wp_X4_nextGranted k0 k1 x2 st Q) : MI l G yX4_nextGranted cX4_nextGranted 4 (some .int) { frames := 4, cells := 0, slots := 0, locals := 86 } [.ref (gh G k0), .ref (gh G k1), .int x2] st Q := by
  refine MI.of (own := RX4) (lo := 0) (hi := 17) hO hwin (by decide) rfl (Nat.le_of_ble_eq_true rfl) (fun p e s m args below meth c C hr hlk => ?_)
  refine g_lv (lv' := [(0, .ref (gh G k0)), (1, .ref (gh G k1)), (2, .int x2)]) rfl ?_
  unfold wp_X4_nextGranted at hw
  obtain ⟨P2, hP2⟩ : ∃ P : Int32 → St → Prop, P = fun x3 st => WG p l e ({ frames := 4, cells := 0, slots := 0, locals := 86 } : Room) s m args below meth c 0 0 (MQ below (va_Qi Q (gB G) (gA G)) args s 0 0 (gA G)) G 4 2 [(0, .ref (gh G k0)), (1, .ref (gh G k1)), (2, .int x2), (3, .int x3)] [] st := ⟨_, rfl⟩
  replace hw := hw P2
  replace hw := hw (by
    intro x3 st hw
    rw [hP2]
    refine g_iload_n C 3 dX4_nextGranted_2 rfl rfl ?_
    refine g_sipush C (1024 : Int32) dX4_nextGranted_3 (by decide) ?_
    refine g_icmp_ge C 26 dX4_nextGranted_6 (by decide) (fun c_5 => ?_) (fun c_5 => ?_)
    · replace hw := hw.1 c_5
      refine g_bipush C (-4 : Int32) dX4_nextGranted_26 (by decide) ?_
      exact g_iret C hr hlk hw dX4_nextGranted_28
    · replace hw := hw.2 c_5
      refine g_aload_n C 0 dX4_nextGranted_9 rfl rfl ?_
      refine g_aload_n C 1 dX4_nextGranted_10 rfl rfl ?_
      refine g_iload_n C 3 dX4_nextGranted_11 rfl rfl ?_
      refine g_callSi C (c_X4_isGrantedOnlyBy l G hO hwin hk0 hk1 hw) kX4_isGrantedOnlyBy tw_513 rfl rfl ⟨Nat.le_of_ble_eq_true rfl, Nat.le_of_ble_eq_true rfl⟩ (As := [.ref (gh G k0), .ref (gh G k1), .int x3]) (rest := []) rfl rfl (Nat.le_of_ble_eq_true rfl) dX4_nextGranted_12 ⟨Nat.le_of_ble_eq_true rfl, Nat.le_of_ble_eq_true rfl⟩ (fun r_2 s_1 hw => ?_)
      refine g_if_eq C 20 dX4_nextGranted_15 (by decide) (fun c_4 => ?_) (fun c_4 => ?_)
      · replace hw := hw.1 c_4
        obtain ⟨x3_3, ex3_3⟩ : ∃ z : Int32, z = x3 + (1 : Int32) := ⟨_, rfl⟩
        replace hw := hw x3_3 ex3_3
        refine g_iinc C x3_3 3 dX4_nextGranted_20 rfl ex3_3.symm (by decide) (lv' := [(3, .int x3_3), (0, .ref (gh G k0)), (1, .ref (gh G k1)), (2, .int x2)]) rfl ?_
        refine g_goto C 2 dX4_nextGranted_23 (by decide) ?_
        rw [hP2] at hw
        exact g_perm [1, 2, 3, 0] rfl (hw)
      · replace hw := hw.2 c_4
        refine g_iload_n C 3 dX4_nextGranted_18 rfl rfl ?_
        exact g_iret C hr hlk hw dX4_nextGranted_19)
  refine g_iload_n C 2 dX4_nextGranted_0 rfl rfl ?_
  refine g_istore_n C dX4_nextGranted_1 rfl (by decide) (lv' := [(3, .int x2), (0, .ref (gh G k0)), (1, .ref (gh G k1)), (2, .int x2)]) rfl ?_
  rw [hP2] at hw
  exact g_perm [1, 2, 3, 0] rfl (hw)

set_option maxHeartbeats 4000000 in
set_option maxRecDepth 100000 in
theorem c_X4_shareBits (l : Launch) (G : Gp) (hO : gOK G) (hwin : ∀ k, 0 ≤ k → k < 17 → k ∈ gks G) {x0 : Int32}  {st : St} {Q : Int32 → St → Prop} (hw : wp_X4_shareBits x0 st Q) : MI l G yX4_shareBits cX4_shareBits 4 (some .int) { frames := 1, cells := 0, slots := 0, locals := 21 } [.int x0] st Q := by
  refine MI.of (own := RX4) (lo := 0) (hi := 17) hO hwin (by decide) rfl (Nat.le_of_ble_eq_true rfl) (fun p e s m args below meth c C hr hlk => ?_)
  refine g_lv (lv' := [(0, .int x0)]) rfl ?_
  unfold wp_X4_shareBits at hw
  refine g_iload_n C 0 dX4_shareBits_0 rfl rfl ?_
  refine g_if_gt C 6 dX4_shareBits_1 (by decide) (fun c_6 => ?_) (fun c_6 => ?_)
  · replace hw := hw.1 c_6
    refine g_bipush C (31 : Int32) dX4_shareBits_6 (by decide) ?_
    refine g_iload_n C 0 dX4_shareBits_8 rfl rfl ?_
    refine g_callSi C (c_J6_numberOfLeadingZeros_0f7a4 l G hO hwin hw) kJ6_numberOfLeadingZeros_0f7a4 tw_551 rfl rfl ⟨Nat.le_of_ble_eq_true rfl, Nat.le_of_ble_eq_true rfl⟩ (As := [.int x0]) (rest := [.int (31 : Int32)]) rfl rfl (Nat.le_of_ble_eq_true rfl) dX4_shareBits_9 ⟨Nat.le_of_ble_eq_true rfl, Nat.le_of_ble_eq_true rfl⟩ (fun r_2 s_1 hw => ?_)
    refine g_isub C dX4_shareBits_12 ?_
    refine g_topi (fun x1_3 ex1_3 => ?_)
    replace hw := hw x1_3 ex1_3
    refine g_istore_n C dX4_shareBits_13 rfl (by decide) (lv' := [(1, .int x1_3), (0, .int x0)]) rfl ?_
    refine g_bipush C (117 : Int32) dX4_shareBits_14 (by decide) ?_
    refine g_iload_n C 0 dX4_shareBits_16 rfl rfl ?_
    refine g_iadd C dX4_shareBits_17 ?_
    refine g_topi (fun x2_4 ex2_4 => ?_)
    replace hw := hw x2_4 ex2_4
    refine g_istore_n C dX4_shareBits_18 rfl (by decide) (lv' := [(2, .int x2_4), (1, .int x1_3), (0, .int x0)]) rfl ?_
    refine g_iload_n C 2 dX4_shareBits_19 rfl rfl ?_
    refine g_bipush C (23 : Int32) dX4_shareBits_20 (by decide) ?_
    refine g_iload_n C 1 dX4_shareBits_22 rfl rfl ?_
    refine g_isub C dX4_shareBits_23 ?_
    refine g_ishl C dX4_shareBits_24 ?_
    refine g_ldc C (8388607 : Int32) tw_555 dX4_shareBits_25 ?_
    refine g_iand C dX4_shareBits_27 ?_
    refine g_topi (fun x3_5 ex3_5 => ?_)
    replace hw := hw x3_5 ex3_5
    refine g_istore_n C dX4_shareBits_28 rfl (by decide) (lv' := [(3, .int x3_5), (2, .int x2_4), (1, .int x1_3), (0, .int x0)]) rfl ?_
    refine g_iload_n C 1 dX4_shareBits_29 rfl rfl ?_
    refine g_bipush C (23 : Int32) dX4_shareBits_30 (by decide) ?_
    refine g_ishl C dX4_shareBits_32 ?_
    refine g_iload_n C 0 dX4_shareBits_33 rfl rfl ?_
    refine g_ior C dX4_shareBits_34 ?_
    exact g_iret C hr hlk hw dX4_shareBits_35
  · replace hw := hw.2 c_6
    refine g_iconst C (0 : Int32) dX4_shareBits_4 (by decide) ?_
    exact g_iret C hr hlk hw dX4_shareBits_5

set_option maxHeartbeats 4000000 in
set_option maxRecDepth 100000 in
theorem c_X4_firstChangeWithout (l : Launch) (G : Gp) (hO : gOK G) (hwin : ∀ k, 0 ≤ k → k < 17 → k ∈ gks G) {k0 : Nat} {x1 : Int32} (hk0 : isPol k0) {st : St} {Q : Int32 → St → Prop} (hw : wp_X4_firstChangeWithout k0 x1 st Q) : MI l G yX4_firstChangeWithout cX4_firstChangeWithout 5 (some .int) { frames := 2, cells := 0, slots := 0, locals := 43 } [.ref (gh G k0), .int x1] st Q := by
  refine MI.of (own := RX4) (lo := 0) (hi := 17) hO hwin (by decide) rfl (Nat.le_of_ble_eq_true rfl) (fun p e s m args below meth c C hr hlk => ?_)
  refine g_lv (lv' := [(0, .ref (gh G k0)), (1, .int x1)]) rfl ?_
  unfold wp_X4_firstChangeWithout at hw
  obtain ⟨P8, hP8⟩ : ∃ P : Int32 → Int32 → St → Prop, P = fun x2 x3 st => WG p l e ({ frames := 2, cells := 0, slots := 0, locals := 43 } : Room) s m args below meth c 0 0 (MQ below (va_Qi Q (gB G) (gA G)) args s 0 0 (gA G)) G 5 8 [(0, .ref (gh G k0)), (1, .int x1), (2, .int x2), (3, .int x3)] [] st := ⟨_, rfl⟩
  replace hw := hw P8
  replace hw := hw (by
    intro x2 x3 st hw
    rw [hP8]
    refine g_iload_n C 3 dX4_firstChangeWithout_8 rfl rfl ?_
    refine g_sipush C (1024 : Int32) dX4_firstChangeWithout_9 (by decide) ?_
    refine g_icmp_ge C 47 dX4_firstChangeWithout_12 (by decide) (fun c_9 => ?_) (fun c_9 => ?_)
    · replace hw := hw.1 c_9
      refine g_bipush C (-4 : Int32) dX4_firstChangeWithout_47 (by decide) ?_
      exact g_iret C hr hlk hw dX4_firstChangeWithout_49
    · replace hw := hw.2 c_9
      refine g_aload_n C 0 dX4_firstChangeWithout_15 rfl rfl ?_
      refine g_iload_n C 3 dX4_firstChangeWithout_16 rfl rfl ?_
      refine g_callVi C (c_X1_applying l G hO hwin hk0 hw) kX1_applying tw_504 (Rv.of C (C.pol hk0) (isPol.cell hk0 G _) (ci := 1) rfl) rfl rfl ⟨Nat.le_of_ble_eq_true rfl, Nat.le_of_ble_eq_true rfl⟩ (As := [.int x3]) (rest := []) rfl rfl (Nat.le_of_ble_eq_true rfl) dX4_firstChangeWithout_17 ⟨Nat.le_of_ble_eq_true rfl, Nat.le_of_ble_eq_true rfl⟩ (fun r_2 s_1 hw => ?_)
      refine g_istore C dX4_firstChangeWithout_20 (by decide) (lv' := [(4, .int r_2), (0, .ref (gh G k0)), (1, .int x1), (2, .int x2), (3, .int x3)]) rfl ?_
      refine g_aload_n C 1 dX4_firstChangeWithout_22 rfl rfl ?_
      refine g_iload C 0 dX4_firstChangeWithout_23 rfl ?_
      refine g_callVi C (c_X1_decisionAmong l G hO hwin hk0 hw) kX1_decisionAmong tw_563 (Rv.of C (C.pol hk0) (isPol.cell hk0 G _) (ci := 1) rfl) rfl rfl ⟨Nat.le_of_ble_eq_true rfl, Nat.le_of_ble_eq_true rfl⟩ (As := [.int r_2]) (rest := []) rfl rfl (Nat.le_of_ble_eq_true rfl) dX4_firstChangeWithout_25 ⟨Nat.le_of_ble_eq_true rfl, Nat.le_of_ble_eq_true rfl⟩ (fun r_4 s_3 hw => ?_)
      refine g_aload_n C 1 dX4_firstChangeWithout_28 rfl rfl ?_
      refine g_iload C 0 dX4_firstChangeWithout_29 rfl ?_
      refine g_iload_n C 3 dX4_firstChangeWithout_31 rfl rfl ?_
      refine g_iand C dX4_firstChangeWithout_32 ?_
      refine g_callVi C (c_X1_decisionAmong l G hO hwin hk0 hw) kX1_decisionAmong tw_563 (Rv.of C (C.pol hk0) (isPol.cell hk0 G _) (ci := 1) rfl) rfl rfl ⟨Nat.le_of_ble_eq_true rfl, Nat.le_of_ble_eq_true rfl⟩ (As := [.int (r_2 &&& x2)]) (rest := [.int r_4]) rfl rfl (Nat.le_of_ble_eq_true rfl) dX4_firstChangeWithout_33 ⟨Nat.le_of_ble_eq_true rfl, Nat.le_of_ble_eq_true rfl⟩ (fun r_6 s_5 hw => ?_)
      refine g_icmp_eq C 41 dX4_firstChangeWithout_36 (by decide) (fun c_8 => ?_) (fun c_8 => ?_)
      · replace hw := hw.1 c_8
        obtain ⟨x3_7, ex3_7⟩ : ∃ z : Int32, z = x3 + (1 : Int32) := ⟨_, rfl⟩
        replace hw := hw x3_7 ex3_7
        refine g_iinc C x3_7 4 dX4_firstChangeWithout_41 rfl ex3_7.symm (by decide) (lv' := [(3, .int x3_7), (4, .int r_2), (0, .ref (gh G k0)), (1, .int x1), (2, .int x2)]) rfl ?_
        refine g_goto C 8 dX4_firstChangeWithout_44 (by decide) ?_
        rw [hP8] at hw
        exact g_perm [2, 3, 4, 0] rfl (hw)
      · replace hw := hw.2 c_8
        refine g_iload_n C 4 dX4_firstChangeWithout_39 rfl rfl ?_
        exact g_iret C hr hlk hw dX4_firstChangeWithout_40)
  refine g_iconst C (1 : Int32) dX4_firstChangeWithout_0 (by decide) ?_
  refine g_iload_n C 1 dX4_firstChangeWithout_1 rfl rfl ?_
  refine g_ishl C dX4_firstChangeWithout_2 ?_
  refine g_iconst C (-1 : Int32) dX4_firstChangeWithout_3 (by decide) ?_
  refine g_ixor C dX4_firstChangeWithout_4 ?_
  refine g_topi (fun x2_10 ex2_10 => ?_)
  replace hw := hw x2_10 ex2_10
  refine g_istore_n C dX4_firstChangeWithout_5 rfl (by decide) (lv' := [(2, .int x2_10), (0, .ref (gh G k0)), (1, .int x1)]) rfl ?_
  refine g_iconst C (0 : Int32) dX4_firstChangeWithout_6 (by decide) ?_
  refine g_istore_n C dX4_firstChangeWithout_7 rfl (by decide) (lv' := [(3, .int (0 : Int32)), (2, .int x2_10), (0, .ref (gh G k0)), (1, .int x1)]) rfl ?_
  rw [hP8] at hw
  exact g_perm [2, 3, 1, 0] rfl (hw)

set_option maxHeartbeats 4000000 in
set_option maxRecDepth 100000 in
theorem c_X4_lowestRedundant (l : Launch) (G : Gp) (hO : gOK G) (hwin : ∀ k, 0 ≤ k → k < 17 → k ∈ gks G) {k1 : Nat} {x2 : Int32} (hk1 : isPol k1) {st : St} {Q : Int32 → St → Prop} (hw : wp_X4_lowestRedundant k1 x2 st Q) : MI l G yX4_lowestRedundant cX4_lowestRedundant 5 (some .int) { frames := 3, cells := 0, slots := 0, locals := 67 } [.ref (gh G 0), .ref (gh G k1), .int x2] st Q := by
  refine MI.of (own := RX4) (lo := 0) (hi := 17) hO hwin (by decide) rfl (Nat.le_of_ble_eq_true rfl) (fun p e s m args below meth c C hr hlk => ?_)
  refine g_lv (lv' := [(0, .ref (gh G 0)), (1, .ref (gh G k1)), (2, .int x2)]) rfl ?_
  unfold wp_X4_lowestRedundant at hw
  obtain ⟨P2, hP2⟩ : ∃ P : Int32 → St → Prop, P = fun x3 st => WG p l e ({ frames := 3, cells := 0, slots := 0, locals := 67 } : Room) s m args below meth c 0 0 (MQ below (va_Qi Q (gB G) (gA G)) args s 0 0 (gA G)) G 5 2 [(0, .ref (gh G 0)), (1, .ref (gh G k1)), (2, .int x2), (3, .int x3)] [] st := ⟨_, rfl⟩
  replace hw := hw P2
  replace hw := hw (by
    intro x3 st hw
    rw [hP2]
    refine g_iload_n C 3 dX4_lowestRedundant_2 rfl rfl ?_
    refine g_bipush C (8 : Int32) dX4_lowestRedundant_3 (by decide) ?_
    refine g_icmp_ge C 47 dX4_lowestRedundant_5 (by decide) (fun c_8 => ?_) (fun c_8 => ?_)
    · replace hw := hw.1 c_8
      refine g_iconst C (0 : Int32) dX4_lowestRedundant_47 (by decide) ?_
      exact g_iret C hr hlk hw dX4_lowestRedundant_48
    · replace hw := hw.2 c_8
      refine g_iconst C (1 : Int32) dX4_lowestRedundant_8 (by decide) ?_
      refine g_iload_n C 3 dX4_lowestRedundant_9 rfl rfl ?_
      refine g_ishl C dX4_lowestRedundant_10 ?_
      refine g_topi (fun x4_1 ex4_1 => ?_)
      replace hw := hw x4_1 ex4_1
      refine g_istore C dX4_lowestRedundant_11 (by decide) (lv' := [(4, .int x4_1), (0, .ref (gh G 0)), (1, .ref (gh G k1)), (2, .int x2), (3, .int x3)]) rfl ?_
      refine g_iload_n C 3 dX4_lowestRedundant_13 rfl rfl ?_
      refine g_iload C 0 dX4_lowestRedundant_14 rfl ?_
      refine g_iand C dX4_lowestRedundant_16 ?_
      refine g_if_eq C 41 dX4_lowestRedundant_17 (by decide) (fun c_7 => ?_) (fun c_7 => ?_)
      · replace hw := hw.1 c_7
        obtain ⟨x3_2, ex3_2⟩ : ∃ z : Int32, z = x3 + (1 : Int32) := ⟨_, rfl⟩
        replace hw := hw x3_2 ex3_2
        refine g_iinc C x3_2 4 dX4_lowestRedundant_41 rfl ex3_2.symm (by decide) (lv' := [(3, .int x3_2), (4, .int x4_1), (0, .ref (gh G 0)), (1, .ref (gh G k1)), (2, .int x2)]) rfl ?_
        refine g_goto C 2 dX4_lowestRedundant_44 (by decide) ?_
        rw [hP2] at hw
        exact g_perm [2, 3, 4, 0] rfl (hw)
      · replace hw := hw.2 c_7
        refine g_aload_n C 1 dX4_lowestRedundant_20 rfl rfl ?_
        refine g_get C inX4 (C.win (by decide) (by decide)) rfl rfl 4 (by decide) tw_293 rfl dX4_lowestRedundant_21 ?_
        refine g_aload_n C 2 dX4_lowestRedundant_24 rfl rfl ?_
        refine g_iload_n C 3 dX4_lowestRedundant_25 rfl rfl ?_
        refine g_iload_n C 3 dX4_lowestRedundant_26 rfl rfl ?_
        refine g_iload C 0 dX4_lowestRedundant_27 rfl ?_
        refine g_iconst C (-1 : Int32) dX4_lowestRedundant_29 (by decide) ?_
        refine g_ixor C dX4_lowestRedundant_30 ?_
        refine g_iand C dX4_lowestRedundant_31 ?_
        refine g_callVi C (c_X3_sameDecisions l G hO hwin hk1 hw) kX3_sameDecisions tw_588 (Rv.of C (C.win (by decide) (by decide)) rfl (ci := 3) rfl) rfl rfl ⟨Nat.le_of_ble_eq_true rfl, Nat.le_of_ble_eq_true rfl⟩ (As := [.ref (gh G k1), .int x2, .int (x2 &&& (x4_1 ^^^ (-1 : Int32)))]) (rest := []) rfl rfl (Nat.le_of_ble_eq_true rfl) dX4_lowestRedundant_32 ⟨Nat.le_of_ble_eq_true rfl, Nat.le_of_ble_eq_true rfl⟩ (fun r_4 s_3 hw => ?_)
        refine g_if_eq C 41 dX4_lowestRedundant_35 (by decide) (fun c_6 => ?_) (fun c_6 => ?_)
        · replace hw := hw.1 c_6
          obtain ⟨x3_5, ex3_5⟩ : ∃ z : Int32, z = x3 + (1 : Int32) := ⟨_, rfl⟩
          replace hw := hw x3_5 ex3_5
          refine g_iinc C x3_5 4 dX4_lowestRedundant_41 rfl ex3_5.symm (by decide) (lv' := [(3, .int x3_5), (4, .int x4_1), (0, .ref (gh G 0)), (1, .ref (gh G k1)), (2, .int x2)]) rfl ?_
          refine g_goto C 2 dX4_lowestRedundant_44 (by decide) ?_
          rw [hP2] at hw
          exact g_perm [2, 3, 4, 0] rfl (hw)
        · replace hw := hw.2 c_6
          refine g_iload C 0 dX4_lowestRedundant_38 rfl ?_
          exact g_iret C hr hlk hw dX4_lowestRedundant_40)
  refine g_iconst C (0 : Int32) dX4_lowestRedundant_0 (by decide) ?_
  refine g_istore_n C dX4_lowestRedundant_1 rfl (by decide) (lv' := [(3, .int (0 : Int32)), (0, .ref (gh G 0)), (1, .ref (gh G k1)), (2, .int x2)]) rfl ?_
  rw [hP2] at hw
  exact g_perm [1, 2, 3, 0] rfl (hw)

set_option maxHeartbeats 4000000 in
set_option maxRecDepth 100000 in
theorem c_X4_append (l : Launch) (G : Gp) (hO : gOK G) (hwin : ∀ k, 0 ≤ k → k < 17 → k ∈ gks G) {x1 : Int32}  {st : St} {Q : Int32 → St → Prop} (hw : wp_X4_append x1 st Q) : MI l G yX4_append cX4_append 2 (some .int) { frames := 1, cells := 0, slots := 0, locals := 21 } [.ref (gh G 0), .int x1] st Q := by
  refine MI.of (own := RX4) (lo := 0) (hi := 17) hO hwin (by decide) rfl (Nat.le_of_ble_eq_true rfl) (fun p e s m args below meth c C hr hlk => ?_)
  refine g_lv (lv' := [(0, .ref (gh G 0)), (1, .int x1)]) rfl ?_
  unfold wp_X4_append at hw
  refine g_iload_n C 1 dX4_append_0 rfl rfl ?_
  refine g_bipush C (32 : Int32) dX4_append_1 (by decide) ?_
  refine g_icmp_lt C 12 dX4_append_3 (by decide) (fun c_7 => ?_) (fun c_7 => ?_)
  · replace hw := hw.1 c_7
    refine g_iconst C (-1 : Int32) dX4_append_12 (by decide) ?_
    exact g_iret C hr hlk hw dX4_append_13
  · replace hw := hw.2 c_7
    refine g_iload_n C 1 dX4_append_6 rfl rfl ?_
    refine g_bipush C (126 : Int32) dX4_append_7 (by decide) ?_
    refine g_icmp_le C 14 dX4_append_9 (by decide) (fun c_6 => ?_) (fun c_6 => ?_)
    · replace hw := hw.1 c_6
      refine g_aload_n C 0 dX4_append_14 rfl rfl ?_
      refine g_get C inX4 (C.win (by decide) (by decide)) rfl rfl 2 (by decide) tw_291 rfl dX4_append_15 ?_
      refine g_iload_n C 1 dX4_append_18 rfl rfl ?_
      refine g_i2c C dX4_append_19 ?_
      refine g_callVi C (c_X2_add l G hO hwin hw) kX2_add tw_184 (Rv.of C (C.win (by decide) (by decide)) rfl (ci := 2) rfl) rfl rfl ⟨Nat.le_of_ble_eq_true rfl, Nat.le_of_ble_eq_true rfl⟩ (As := [.int (toChr x1)]) (rest := []) rfl rfl (Nat.le_of_ble_eq_true rfl) dX4_append_20 ⟨Nat.le_of_ble_eq_true rfl, Nat.le_of_ble_eq_true rfl⟩ (fun r_2 s_1 hw => ?_)
      refine g_if_eq C 36 dX4_append_23 (by decide) (fun c_5 => ?_) (fun c_5 => ?_)
      · replace hw := hw.1 c_5
        refine g_bipush C (-2 : Int32) dX4_append_36 (by decide) ?_
        exact g_iret C hr hlk hw dX4_append_38
      · replace hw := hw.2 c_5
        refine g_aload_n C 0 dX4_append_26 rfl rfl ?_
        refine g_get C inX4 (C.win (by decide) (by decide)) rfl rfl 2 (by decide) tw_291 rfl dX4_append_27 ?_
        refine g_callVi C (c_X2_length l G hO hwin hw) kX2_length tw_310 (Rv.of C (C.win (by decide) (by decide)) rfl (ci := 2) rfl) rfl rfl ⟨Nat.le_of_ble_eq_true rfl, Nat.le_of_ble_eq_true rfl⟩ (As := []) (rest := []) rfl rfl (Nat.le_of_ble_eq_true rfl) dX4_append_30 ⟨Nat.le_of_ble_eq_true rfl, Nat.le_of_ble_eq_true rfl⟩ (fun r_4 s_3 hw => ?_)
        refine g_goto C 38 dX4_append_33 (by decide) ?_
        exact g_iret C hr hlk hw dX4_append_38
    · replace hw := hw.2 c_6
      refine g_iconst C (-1 : Int32) dX4_append_12 (by decide) ?_
      exact g_iret C hr hlk hw dX4_append_13

set_option maxHeartbeats 4000000 in
set_option maxRecDepth 100000 in
theorem c_X4_clearText (l : Launch) (G : Gp) (hO : gOK G) (hwin : ∀ k, 0 ≤ k → k < 17 → k ∈ gks G)   {st : St} {Q : Int32 → St → Prop} (hw : wp_X4_clearText  st Q) : MI l G yX4_clearText cX4_clearText 2 (some .int) { frames := 1, cells := 0, slots := 0, locals := 20 } [.ref (gh G 0)] st Q := by
  refine MI.of (own := RX4) (lo := 0) (hi := 17) hO hwin (by decide) rfl (Nat.le_of_ble_eq_true rfl) (fun p e s m args below meth c C hr hlk => ?_)
  refine g_lv (lv' := [(0, .ref (gh G 0))]) rfl ?_
  unfold wp_X4_clearText at hw
  refine g_aload_n C 0 dX4_clearText_0 rfl rfl ?_
  refine g_get C inX4 (C.win (by decide) (by decide)) rfl rfl 2 (by decide) tw_291 rfl dX4_clearText_1 ?_
  refine g_callVi C (c_X2_length l G hO hwin hw) kX2_length tw_310 (Rv.of C (C.win (by decide) (by decide)) rfl (ci := 2) rfl) rfl rfl ⟨Nat.le_of_ble_eq_true rfl, Nat.le_of_ble_eq_true rfl⟩ (As := []) (rest := []) rfl rfl (Nat.le_of_ble_eq_true rfl) dX4_clearText_4 ⟨Nat.le_of_ble_eq_true rfl, Nat.le_of_ble_eq_true rfl⟩ (fun r_2 s_1 hw => ?_)
  refine g_istore_n C dX4_clearText_7 rfl (by decide) (lv' := [(1, .int r_2), (0, .ref (gh G 0))]) rfl ?_
  refine g_aload_n C 1 dX4_clearText_8 rfl rfl ?_
  refine g_get C inX4 (C.win (by decide) (by decide)) rfl rfl 2 (by decide) tw_291 rfl dX4_clearText_9 ?_
  refine g_callVv C (c_X2_empty l G hO hwin hw) kX2_empty tw_285 (Rv.of C (C.win (by decide) (by decide)) rfl (ci := 2) rfl) rfl rfl ⟨Nat.le_of_ble_eq_true rfl, Nat.le_of_ble_eq_true rfl⟩ (As := []) (rest := []) rfl rfl (Nat.le_of_ble_eq_true rfl) dX4_clearText_12 ⟨Nat.le_of_ble_eq_true rfl, Nat.le_of_ble_eq_true rfl⟩ (fun s_3 hw => ?_)
  refine g_iload_n C 0 dX4_clearText_15 rfl rfl ?_
  exact g_iret C hr hlk hw dX4_clearText_16

set_option maxHeartbeats 4000000 in
set_option maxRecDepth 100000 in
theorem c_X4_syntaxError (l : Launch) (G : Gp) (hO : gOK G) (hwin : ∀ k, 0 ≤ k → k < 17 → k ∈ gks G)   {st : St} {Q : Int32 → St → Prop} (hw : wp_X4_syntaxError  st Q) : MI l G yX4_syntaxError cX4_syntaxError 1 (some .int) { frames := 8, cells := 0, slots := 0, locals := 175 } [.ref (gh G 0)] st Q := by
  refine MI.of (own := RX4) (lo := 0) (hi := 17) hO hwin (by decide) rfl (Nat.le_of_ble_eq_true rfl) (fun p e s m args below meth c C hr hlk => ?_)
  refine g_lv (lv' := [(0, .ref (gh G 0))]) rfl ?_
  unfold wp_X4_syntaxError at hw
  refine g_aload_n C 0 dX4_syntaxError_0 rfl rfl ?_
  refine g_get C inX4 (C.win (by decide) (by decide)) rfl rfl 2 (by decide) tw_291 rfl dX4_syntaxError_1 ?_
  refine g_callVi C (c_X2_firstMalformed l G hO hwin hw) kX2_firstMalformed tw_188 (Rv.of C (C.win (by decide) (by decide)) rfl (ci := 2) rfl) rfl rfl ⟨Nat.le_of_ble_eq_true rfl, Nat.le_of_ble_eq_true rfl⟩ (As := []) (rest := []) rfl rfl (Nat.le_of_ble_eq_true rfl) dX4_syntaxError_4 ⟨Nat.le_of_ble_eq_true rfl, Nat.le_of_ble_eq_true rfl⟩ (fun r_2 s_1 hw => ?_)
  exact g_iret C hr hlk hw dX4_syntaxError_7

set_option maxHeartbeats 4000000 in
set_option maxRecDepth 100000 in
theorem c_X4_load (l : Launch) (G : Gp) (hO : gOK G) (hwin : ∀ k, 0 ≤ k → k < 17 → k ∈ gks G)   {st : St} {Q : Int32 → St → Prop} (hw : wp_X4_load  st Q) : MI l G yX4_load cX4_load 1 (some .int) { frames := 8, cells := 0, slots := 0, locals := 175 } [.ref (gh G 0)] st Q := by
  refine MI.of (own := RX4) (lo := 0) (hi := 17) hO hwin (by decide) rfl (Nat.le_of_ble_eq_true rfl) (fun p e s m args below meth c C hr hlk => ?_)
  refine g_lv (lv' := [(0, .ref (gh G 0))]) rfl ?_
  unfold wp_X4_load at hw
  refine g_aload_n C 0 dX4_load_0 rfl rfl ?_
  refine g_get C inX4 (C.win (by decide) (by decide)) rfl rfl 2 (by decide) tw_291 rfl dX4_load_1 ?_
  refine g_callVi C (c_X2_firstMalformed l G hO hwin hw) kX2_firstMalformed tw_188 (Rv.of C (C.win (by decide) (by decide)) rfl (ci := 2) rfl) rfl rfl ⟨Nat.le_of_ble_eq_true rfl, Nat.le_of_ble_eq_true rfl⟩ (As := []) (rest := []) rfl rfl (Nat.le_of_ble_eq_true rfl) dX4_load_4 ⟨Nat.le_of_ble_eq_true rfl, Nat.le_of_ble_eq_true rfl⟩ (fun r_2 s_1 hw => ?_)
  refine g_bipush C (-4 : Int32) dX4_load_7 (by decide) ?_
  refine g_icmp_eq C 15 dX4_load_9 (by decide) (fun c_9 => ?_) (fun c_9 => ?_)
  · replace hw := hw.1 c_9
    refine g_aload_n C 0 dX4_load_15 rfl rfl ?_
    refine g_callVv C (c_X4_takeDrafts l G hO hwin hw) kX4_takeDrafts tw_266 (Rv.of C (C.win (by decide) (by decide)) rfl (ci := 4) rfl) rfl rfl ⟨Nat.le_of_ble_eq_true rfl, Nat.le_of_ble_eq_true rfl⟩ (As := []) (rest := []) rfl rfl (Nat.le_of_ble_eq_true rfl) dX4_load_16 ⟨Nat.le_of_ble_eq_true rfl, Nat.le_of_ble_eq_true rfl⟩ (fun s_3 hw => ?_)
    refine g_aload_n C 0 dX4_load_19 rfl rfl ?_
    refine g_get C inX4 (C.win (by decide) (by decide)) rfl rfl 3 (by decide) tw_292 rfl dX4_load_20 ?_
    refine g_callVv C (c_X0_forgetAll l G hO hwin hw) kX0_forgetAll tw_326 (Rv.of C (C.win (by decide) (by decide)) rfl (ci := 0) rfl) rfl rfl ⟨Nat.le_of_ble_eq_true rfl, Nat.le_of_ble_eq_true rfl⟩ (As := []) (rest := []) rfl rfl (Nat.le_of_ble_eq_true rfl) dX4_load_23 ⟨Nat.le_of_ble_eq_true rfl, Nat.le_of_ble_eq_true rfl⟩ (fun s_4 hw => ?_)
    refine g_aload_n C 0 dX4_load_26 rfl rfl ?_
    refine g_get C inX4 (C.win (by decide) (by decide)) rfl rfl 0 (by decide) tw_289 rfl dX4_load_27 ?_
    refine g_callVi C (c_X1_size l G hO hwin (Or.inl rfl) hw) kX1_size tw_330 (Rv.of C (C.pol (Or.inl rfl)) (isPol.cell (Or.inl rfl) G _) (ci := 1) rfl) rfl rfl ⟨Nat.le_of_ble_eq_true rfl, Nat.le_of_ble_eq_true rfl⟩ (As := []) (rest := []) rfl rfl (Nat.le_of_ble_eq_true rfl) dX4_load_30 ⟨Nat.le_of_ble_eq_true rfl, Nat.le_of_ble_eq_true rfl⟩ (fun r_6 s_5 hw => ?_)
    refine g_aload_n C 0 dX4_load_33 rfl rfl ?_
    refine g_get C inX4 (C.win (by decide) (by decide)) rfl rfl 1 (by decide) tw_290 rfl dX4_load_34 ?_
    refine g_callVi C (c_X1_size l G hO hwin (Or.inr (Or.inl rfl)) hw) kX1_size tw_330 (Rv.of C (C.pol (Or.inr (Or.inl rfl))) (isPol.cell (Or.inr (Or.inl rfl)) G _) (ci := 1) rfl) rfl rfl ⟨Nat.le_of_ble_eq_true rfl, Nat.le_of_ble_eq_true rfl⟩ (As := []) (rest := [.int r_6]) rfl rfl (Nat.le_of_ble_eq_true rfl) dX4_load_37 ⟨Nat.le_of_ble_eq_true rfl, Nat.le_of_ble_eq_true rfl⟩ (fun r_8 s_7 hw => ?_)
    refine g_iadd C dX4_load_40 ?_
    exact g_iret C hr hlk hw dX4_load_41
  · replace hw := hw.2 c_9
    refine g_bipush C (-3 : Int32) dX4_load_12 (by decide) ?_
    exact g_iret C hr hlk hw dX4_load_14

set_option maxHeartbeats 4000000 in
set_option maxRecDepth 100000 in
theorem c_X4_addRule (l : Launch) (G : Gp) (hO : gOK G) (hwin : ∀ k, 0 ≤ k → k < 17 → k ∈ gks G) {x1 : Int32} {x2 : Int32} {x3 : Int32}  {st : St} {Q : Int32 → St → Prop} (hw : wp_X4_addRule x1 x2 x3 st Q) : MI l G yX4_addRule cX4_addRule 5 (some .int) { frames := 3, cells := 0, slots := 0, locals := 62 } [.ref (gh G 0), .int x1, .int x2, .int x3] st Q := by
  refine MI.of (own := RX4) (lo := 0) (hi := 17) hO hwin (by decide) rfl (Nat.le_of_ble_eq_true rfl) (fun p e s m args below meth c C hr hlk => ?_)
  refine g_lv (lv' := [(0, .ref (gh G 0)), (1, .int x1), (2, .int x2), (3, .int x3)]) rfl ?_
  unfold wp_X4_addRule at hw
  refine g_iload_n C 1 dX4_addRule_0 rfl rfl ?_
  refine g_callSi C (c_X4_isPolicy l G hO hwin hw) kX4_isPolicy tw_335 rfl rfl ⟨Nat.le_of_ble_eq_true rfl, Nat.le_of_ble_eq_true rfl⟩ (As := [.int x1]) (rest := []) rfl rfl (Nat.le_of_ble_eq_true rfl) dX4_addRule_1 ⟨Nat.le_of_ble_eq_true rfl, Nat.le_of_ble_eq_true rfl⟩ (fun r_2 s_1 hw => ?_)
  refine g_if_eq C 14 dX4_addRule_4 (by decide) (fun c_19 => ?_) (fun c_19 => ?_)
  · replace hw := hw.1 c_19
    refine g_iconst C (-1 : Int32) dX4_addRule_14 (by decide) ?_
    exact g_iret C hr hlk hw dX4_addRule_15
  · replace hw := hw.2 c_19
    refine g_iload_n C 3 dX4_addRule_7 rfl rfl ?_
    refine g_callSi C (c_X4_isEffect l G hO hwin hw) kX4_isEffect tw_338 rfl rfl ⟨Nat.le_of_ble_eq_true rfl, Nat.le_of_ble_eq_true rfl⟩ (As := [.int x3]) (rest := []) rfl rfl (Nat.le_of_ble_eq_true rfl) dX4_addRule_8 ⟨Nat.le_of_ble_eq_true rfl, Nat.le_of_ble_eq_true rfl⟩ (fun r_4 s_3 hw => ?_)
    refine g_if_ne C 16 dX4_addRule_11 (by decide) (fun c_18 => ?_) (fun c_18 => ?_)
    · replace hw := hw.2 c_18
      refine g_aload_n C 0 dX4_addRule_16 rfl rfl ?_
      refine g_iload_n C 1 dX4_addRule_17 rfl rfl ?_
      refine g_callVr C (c_X4_policyNumbered l G hO hwin hw) kX4_policyNumbered tw_341 (Rv.of C (C.win (by decide) (by decide)) rfl (ci := 4) rfl) rfl rfl ⟨Nat.le_of_ble_eq_true rfl, Nat.le_of_ble_eq_true rfl⟩ (As := [.int x1]) (rest := []) rfl rfl (Nat.le_of_ble_eq_true rfl) dX4_addRule_18 ⟨Nat.le_of_ble_eq_true rfl, Nat.le_of_ble_eq_true rfl⟩ (fun k_6 s_5 hw => ?_)
      have hk_6 := hw.1
      replace hw := hw.2
      refine g_astore C dX4_addRule_21 (by decide) (lv' := [(4, .ref (gh G k_6)), (0, .ref (gh G 0)), (1, .int x1), (2, .int x2), (3, .int x3)]) rfl ?_
      refine g_iload_n C 3 dX4_addRule_23 rfl rfl ?_
      refine g_if_lt C 36 dX4_addRule_24 (by decide) (fun c_17 => ?_) (fun c_17 => ?_)
      · replace hw := hw.1 c_17
        refine g_iconst C (-1 : Int32) dX4_addRule_36 (by decide) ?_
        exact g_iret C hr hlk hw dX4_addRule_37
      · replace hw := hw.2 c_17
        refine g_iload_n C 3 dX4_addRule_27 rfl rfl ?_
        refine g_aload C 0 dX4_addRule_28 rfl ?_
        refine g_callVi C (c_X1_size l G hO hwin hk_6 hw) kX1_size tw_330 (Rv.of C (C.pol hk_6) (isPol.cell hk_6 G _) (ci := 1) rfl) rfl rfl ⟨Nat.le_of_ble_eq_true rfl, Nat.le_of_ble_eq_true rfl⟩ (As := []) (rest := [.int x2]) rfl rfl (Nat.le_of_ble_eq_true rfl) dX4_addRule_30 ⟨Nat.le_of_ble_eq_true rfl, Nat.le_of_ble_eq_true rfl⟩ (fun r_8 s_7 hw => ?_)
        refine g_icmp_le C 38 dX4_addRule_33 (by decide) (fun c_16 => ?_) (fun c_16 => ?_)
        · replace hw := hw.1 c_16
          refine g_aload C 0 dX4_addRule_38 rfl ?_
          refine g_callVi C (c_X1_size l G hO hwin hk_6 hw) kX1_size tw_330 (Rv.of C (C.pol hk_6) (isPol.cell hk_6 G _) (ci := 1) rfl) rfl rfl ⟨Nat.le_of_ble_eq_true rfl, Nat.le_of_ble_eq_true rfl⟩ (As := []) (rest := []) rfl rfl (Nat.le_of_ble_eq_true rfl) dX4_addRule_40 ⟨Nat.le_of_ble_eq_true rfl, Nat.le_of_ble_eq_true rfl⟩ (fun r_10 s_9 hw => ?_)
          refine g_bipush C (8 : Int32) dX4_addRule_43 (by decide) ?_
          refine g_icmp_lt C 51 dX4_addRule_45 (by decide) (fun c_15 => ?_) (fun c_15 => ?_)
          · replace hw := hw.1 c_15
            refine g_aload_n C 1 dX4_addRule_51 rfl rfl ?_
            refine g_get C inX4 (C.win (by decide) (by decide)) rfl rfl 3 (by decide) tw_292 rfl dX4_addRule_52 ?_
            refine g_iload_n C 2 dX4_addRule_55 rfl rfl ?_
            refine g_aload C 0 dX4_addRule_56 rfl ?_
            refine g_callVv C (c_X0_remember l G hO hwin hk_6 hw) kX0_remember tw_345 (Rv.of C (C.win (by decide) (by decide)) rfl (ci := 0) rfl) rfl rfl ⟨Nat.le_of_ble_eq_true rfl, Nat.le_of_ble_eq_true rfl⟩ (As := [.int x1, .ref (gh G k_6)]) (rest := []) rfl rfl (Nat.le_of_ble_eq_true rfl) dX4_addRule_58 ⟨Nat.le_of_ble_eq_true rfl, Nat.le_of_ble_eq_true rfl⟩ (fun s_11 hw => ?_)
            refine g_aload C 0 dX4_addRule_61 rfl ?_
            refine g_iload_n C 3 dX4_addRule_63 rfl rfl ?_
            refine g_iload_n C 4 dX4_addRule_64 rfl rfl ?_
            refine g_callVv C (c_X1_insertRule l G hO hwin hk_6 hw) kX1_insertRule tw_358 (Rv.of C (C.pol hk_6) (isPol.cell hk_6 G _) (ci := 1) rfl) rfl rfl ⟨Nat.le_of_ble_eq_true rfl, Nat.le_of_ble_eq_true rfl⟩ (As := [.int x2, .int x3]) (rest := []) rfl rfl (Nat.le_of_ble_eq_true rfl) dX4_addRule_65 ⟨Nat.le_of_ble_eq_true rfl, Nat.le_of_ble_eq_true rfl⟩ (fun s_12 hw => ?_)
            refine g_aload C 0 dX4_addRule_68 rfl ?_
            refine g_callVi C (c_X1_size l G hO hwin hk_6 hw) kX1_size tw_330 (Rv.of C (C.pol hk_6) (isPol.cell hk_6 G _) (ci := 1) rfl) rfl rfl ⟨Nat.le_of_ble_eq_true rfl, Nat.le_of_ble_eq_true rfl⟩ (As := []) (rest := []) rfl rfl (Nat.le_of_ble_eq_true rfl) dX4_addRule_70 ⟨Nat.le_of_ble_eq_true rfl, Nat.le_of_ble_eq_true rfl⟩ (fun r_14 s_13 hw => ?_)
            exact g_iret C hr hlk hw dX4_addRule_73
          · replace hw := hw.2 c_15
            refine g_bipush C (-2 : Int32) dX4_addRule_48 (by decide) ?_
            exact g_iret C hr hlk hw dX4_addRule_50
        · replace hw := hw.2 c_16
          refine g_iconst C (-1 : Int32) dX4_addRule_36 (by decide) ?_
          exact g_iret C hr hlk hw dX4_addRule_37
    · replace hw := hw.1 c_18
      refine g_iconst C (-1 : Int32) dX4_addRule_14 (by decide) ?_
      exact g_iret C hr hlk hw dX4_addRule_15

set_option maxHeartbeats 4000000 in
set_option maxRecDepth 100000 in
theorem c_X4_removeRule (l : Launch) (G : Gp) (hO : gOK G) (hwin : ∀ k, 0 ≤ k → k < 17 → k ∈ gks G) {x1 : Int32} {x2 : Int32}  {st : St} {Q : Int32 → St → Prop} (hw : wp_X4_removeRule x1 x2 st Q) : MI l G yX4_removeRule cX4_removeRule 4 (some .int) { frames := 3, cells := 0, slots := 0, locals := 62 } [.ref (gh G 0), .int x1, .int x2] st Q := by
  refine MI.of (own := RX4) (lo := 0) (hi := 17) hO hwin (by decide) rfl (Nat.le_of_ble_eq_true rfl) (fun p e s m args below meth c C hr hlk => ?_)
  refine g_lv (lv' := [(0, .ref (gh G 0)), (1, .int x1), (2, .int x2)]) rfl ?_
  unfold wp_X4_removeRule at hw
  refine g_aload_n C 0 dX4_removeRule_0 rfl rfl ?_
  refine g_iload_n C 1 dX4_removeRule_1 rfl rfl ?_
  refine g_iload_n C 2 dX4_removeRule_2 rfl rfl ?_
  refine g_callVi C (c_X4_isRule l G hO hwin hw) kX4_isRule tw_363 (Rv.of C (C.win (by decide) (by decide)) rfl (ci := 4) rfl) rfl rfl ⟨Nat.le_of_ble_eq_true rfl, Nat.le_of_ble_eq_true rfl⟩ (As := [.int x1, .int x2]) (rest := []) rfl rfl (Nat.le_of_ble_eq_true rfl) dX4_removeRule_3 ⟨Nat.le_of_ble_eq_true rfl, Nat.le_of_ble_eq_true rfl⟩ (fun r_2 s_1 hw => ?_)
  refine g_if_ne C 11 dX4_removeRule_6 (by decide) (fun c_9 => ?_) (fun c_9 => ?_)
  · replace hw := hw.2 c_9
    refine g_aload_n C 0 dX4_removeRule_11 rfl rfl ?_
    refine g_iload_n C 1 dX4_removeRule_12 rfl rfl ?_
    refine g_callVr C (c_X4_policyNumbered l G hO hwin hw) kX4_policyNumbered tw_341 (Rv.of C (C.win (by decide) (by decide)) rfl (ci := 4) rfl) rfl rfl ⟨Nat.le_of_ble_eq_true rfl, Nat.le_of_ble_eq_true rfl⟩ (As := [.int x1]) (rest := []) rfl rfl (Nat.le_of_ble_eq_true rfl) dX4_removeRule_13 ⟨Nat.le_of_ble_eq_true rfl, Nat.le_of_ble_eq_true rfl⟩ (fun k_4 s_3 hw => ?_)
    have hk_4 := hw.1
    replace hw := hw.2
    refine g_astore_n C dX4_removeRule_16 rfl (by decide) (lv' := [(3, .ref (gh G k_4)), (0, .ref (gh G 0)), (1, .int x1), (2, .int x2)]) rfl ?_
    refine g_aload_n C 1 dX4_removeRule_17 rfl rfl ?_
    refine g_get C inX4 (C.win (by decide) (by decide)) rfl rfl 3 (by decide) tw_292 rfl dX4_removeRule_18 ?_
    refine g_iload_n C 2 dX4_removeRule_21 rfl rfl ?_
    refine g_aload_n C 0 dX4_removeRule_22 rfl rfl ?_
    refine g_callVv C (c_X0_remember l G hO hwin hk_4 hw) kX0_remember tw_345 (Rv.of C (C.win (by decide) (by decide)) rfl (ci := 0) rfl) rfl rfl ⟨Nat.le_of_ble_eq_true rfl, Nat.le_of_ble_eq_true rfl⟩ (As := [.int x1, .ref (gh G k_4)]) (rest := []) rfl rfl (Nat.le_of_ble_eq_true rfl) dX4_removeRule_23 ⟨Nat.le_of_ble_eq_true rfl, Nat.le_of_ble_eq_true rfl⟩ (fun s_5 hw => ?_)
    refine g_aload_n C 0 dX4_removeRule_26 rfl rfl ?_
    refine g_iload_n C 3 dX4_removeRule_27 rfl rfl ?_
    refine g_callVv C (c_X1_dropRule l G hO hwin hk_4 hw) kX1_dropRule tw_367 (Rv.of C (C.pol hk_4) (isPol.cell hk_4 G _) (ci := 1) rfl) rfl rfl ⟨Nat.le_of_ble_eq_true rfl, Nat.le_of_ble_eq_true rfl⟩ (As := [.int x2]) (rest := []) rfl rfl (Nat.le_of_ble_eq_true rfl) dX4_removeRule_28 ⟨Nat.le_of_ble_eq_true rfl, Nat.le_of_ble_eq_true rfl⟩ (fun s_6 hw => ?_)
    refine g_aload_n C 0 dX4_removeRule_31 rfl rfl ?_
    refine g_callVi C (c_X1_size l G hO hwin hk_4 hw) kX1_size tw_330 (Rv.of C (C.pol hk_4) (isPol.cell hk_4 G _) (ci := 1) rfl) rfl rfl ⟨Nat.le_of_ble_eq_true rfl, Nat.le_of_ble_eq_true rfl⟩ (As := []) (rest := []) rfl rfl (Nat.le_of_ble_eq_true rfl) dX4_removeRule_32 ⟨Nat.le_of_ble_eq_true rfl, Nat.le_of_ble_eq_true rfl⟩ (fun r_8 s_7 hw => ?_)
    exact g_iret C hr hlk hw dX4_removeRule_35
  · replace hw := hw.1 c_9
    refine g_iconst C (-1 : Int32) dX4_removeRule_9 (by decide) ?_
    exact g_iret C hr hlk hw dX4_removeRule_10

set_option maxHeartbeats 4000000 in
set_option maxRecDepth 100000 in
theorem c_X4_moveRule (l : Launch) (G : Gp) (hO : gOK G) (hwin : ∀ k, 0 ≤ k → k < 17 → k ∈ gks G) {x1 : Int32} {x2 : Int32} {x3 : Int32}  {st : St} {Q : Int32 → St → Prop} (hw : wp_X4_moveRule x1 x2 x3 st Q) : MI l G yX4_moveRule cX4_moveRule 5 (some .int) { frames := 3, cells := 0, slots := 0, locals := 62 } [.ref (gh G 0), .int x1, .int x2, .int x3] st Q := by
  refine MI.of (own := RX4) (lo := 0) (hi := 17) hO hwin (by decide) rfl (Nat.le_of_ble_eq_true rfl) (fun p e s m args below meth c C hr hlk => ?_)
  refine g_lv (lv' := [(0, .ref (gh G 0)), (1, .int x1), (2, .int x2), (3, .int x3)]) rfl ?_
  unfold wp_X4_moveRule at hw
  refine g_aload_n C 0 dX4_moveRule_0 rfl rfl ?_
  refine g_iload_n C 1 dX4_moveRule_1 rfl rfl ?_
  refine g_iload_n C 2 dX4_moveRule_2 rfl rfl ?_
  refine g_callVi C (c_X4_isRule l G hO hwin hw) kX4_isRule tw_363 (Rv.of C (C.win (by decide) (by decide)) rfl (ci := 4) rfl) rfl rfl ⟨Nat.le_of_ble_eq_true rfl, Nat.le_of_ble_eq_true rfl⟩ (As := [.int x1, .int x2]) (rest := []) rfl rfl (Nat.le_of_ble_eq_true rfl) dX4_moveRule_3 ⟨Nat.le_of_ble_eq_true rfl, Nat.le_of_ble_eq_true rfl⟩ (fun r_2 s_1 hw => ?_)
  refine g_if_eq C 18 dX4_moveRule_6 (by decide) (fun c_13 => ?_) (fun c_13 => ?_)
  · replace hw := hw.1 c_13
    refine g_iconst C (-1 : Int32) dX4_moveRule_18 (by decide) ?_
    exact g_iret C hr hlk hw dX4_moveRule_19
  · replace hw := hw.2 c_13
    refine g_aload_n C 0 dX4_moveRule_9 rfl rfl ?_
    refine g_iload_n C 1 dX4_moveRule_10 rfl rfl ?_
    refine g_iload_n C 3 dX4_moveRule_11 rfl rfl ?_
    refine g_callVi C (c_X4_isRule l G hO hwin hw) kX4_isRule tw_363 (Rv.of C (C.win (by decide) (by decide)) rfl (ci := 4) rfl) rfl rfl ⟨Nat.le_of_ble_eq_true rfl, Nat.le_of_ble_eq_true rfl⟩ (As := [.int x1, .int x3]) (rest := []) rfl rfl (Nat.le_of_ble_eq_true rfl) dX4_moveRule_12 ⟨Nat.le_of_ble_eq_true rfl, Nat.le_of_ble_eq_true rfl⟩ (fun r_4 s_3 hw => ?_)
    refine g_if_ne C 20 dX4_moveRule_15 (by decide) (fun c_12 => ?_) (fun c_12 => ?_)
    · replace hw := hw.2 c_12
      refine g_iload_n C 2 dX4_moveRule_20 rfl rfl ?_
      refine g_iload_n C 3 dX4_moveRule_21 rfl rfl ?_
      refine g_icmp_ne C 28 dX4_moveRule_22 (by decide) (fun c_11 => ?_) (fun c_11 => ?_)
      · replace hw := hw.2 c_11
        refine g_aload_n C 0 dX4_moveRule_28 rfl rfl ?_
        refine g_iload_n C 1 dX4_moveRule_29 rfl rfl ?_
        refine g_callVr C (c_X4_policyNumbered l G hO hwin hw) kX4_policyNumbered tw_341 (Rv.of C (C.win (by decide) (by decide)) rfl (ci := 4) rfl) rfl rfl ⟨Nat.le_of_ble_eq_true rfl, Nat.le_of_ble_eq_true rfl⟩ (As := [.int x1]) (rest := []) rfl rfl (Nat.le_of_ble_eq_true rfl) dX4_moveRule_30 ⟨Nat.le_of_ble_eq_true rfl, Nat.le_of_ble_eq_true rfl⟩ (fun k_6 s_5 hw => ?_)
        have hk_6 := hw.1
        replace hw := hw.2
        refine g_astore C dX4_moveRule_33 (by decide) (lv' := [(4, .ref (gh G k_6)), (0, .ref (gh G 0)), (1, .int x1), (2, .int x2), (3, .int x3)]) rfl ?_
        refine g_aload_n C 1 dX4_moveRule_35 rfl rfl ?_
        refine g_get C inX4 (C.win (by decide) (by decide)) rfl rfl 3 (by decide) tw_292 rfl dX4_moveRule_36 ?_
        refine g_iload_n C 2 dX4_moveRule_39 rfl rfl ?_
        refine g_aload C 0 dX4_moveRule_40 rfl ?_
        refine g_callVv C (c_X0_remember l G hO hwin hk_6 hw) kX0_remember tw_345 (Rv.of C (C.win (by decide) (by decide)) rfl (ci := 0) rfl) rfl rfl ⟨Nat.le_of_ble_eq_true rfl, Nat.le_of_ble_eq_true rfl⟩ (As := [.int x1, .ref (gh G k_6)]) (rest := []) rfl rfl (Nat.le_of_ble_eq_true rfl) dX4_moveRule_42 ⟨Nat.le_of_ble_eq_true rfl, Nat.le_of_ble_eq_true rfl⟩ (fun s_7 hw => ?_)
        refine g_aload C 0 dX4_moveRule_45 rfl ?_
        refine g_iload_n C 3 dX4_moveRule_47 rfl rfl ?_
        refine g_iload_n C 4 dX4_moveRule_48 rfl rfl ?_
        refine g_callVv C (c_X1_shiftRule l G hO hwin hk_6 hw) kX1_shiftRule tw_378 (Rv.of C (C.pol hk_6) (isPol.cell hk_6 G _) (ci := 1) rfl) rfl rfl ⟨Nat.le_of_ble_eq_true rfl, Nat.le_of_ble_eq_true rfl⟩ (As := [.int x2, .int x3]) (rest := []) rfl rfl (Nat.le_of_ble_eq_true rfl) dX4_moveRule_49 ⟨Nat.le_of_ble_eq_true rfl, Nat.le_of_ble_eq_true rfl⟩ (fun s_8 hw => ?_)
        refine g_aload C 0 dX4_moveRule_52 rfl ?_
        refine g_iload_n C 4 dX4_moveRule_54 rfl rfl ?_
        refine g_callVi C (c_X1_effectAt l G hO hwin hk_6 hw) kX1_effectAt tw_382 (Rv.of C (C.pol hk_6) (isPol.cell hk_6 G _) (ci := 1) rfl) rfl rfl ⟨Nat.le_of_ble_eq_true rfl, Nat.le_of_ble_eq_true rfl⟩ (As := [.int x3]) (rest := []) rfl rfl (Nat.le_of_ble_eq_true rfl) dX4_moveRule_55 ⟨Nat.le_of_ble_eq_true rfl, Nat.le_of_ble_eq_true rfl⟩ (fun r_10 s_9 hw => ?_)
        exact g_iret C hr hlk hw dX4_moveRule_58
      · replace hw := hw.1 c_11
        refine g_bipush C (-3 : Int32) dX4_moveRule_25 (by decide) ?_
        exact g_iret C hr hlk hw dX4_moveRule_27
    · replace hw := hw.1 c_12
      refine g_iconst C (-1 : Int32) dX4_moveRule_18 (by decide) ?_
      exact g_iret C hr hlk hw dX4_moveRule_19

set_option maxHeartbeats 4000000 in
set_option maxRecDepth 100000 in
theorem c_X4_setAlgorithm (l : Launch) (G : Gp) (hO : gOK G) (hwin : ∀ k, 0 ≤ k → k < 17 → k ∈ gks G) {x1 : Int32} {x2 : Int32}  {st : St} {Q : Int32 → St → Prop} (hw : wp_X4_setAlgorithm x1 x2 st Q) : MI l G yX4_setAlgorithm cX4_setAlgorithm 5 (some .int) { frames := 3, cells := 0, slots := 0, locals := 62 } [.ref (gh G 0), .int x1, .int x2] st Q := by
  refine MI.of (own := RX4) (lo := 0) (hi := 17) hO hwin (by decide) rfl (Nat.le_of_ble_eq_true rfl) (fun p e s m args below meth c C hr hlk => ?_)
  refine g_lv (lv' := [(0, .ref (gh G 0)), (1, .int x1), (2, .int x2)]) rfl ?_
  unfold wp_X4_setAlgorithm at hw
  refine g_iload_n C 1 dX4_setAlgorithm_0 rfl rfl ?_
  refine g_callSi C (c_X4_isPolicy l G hO hwin hw) kX4_isPolicy tw_335 rfl rfl ⟨Nat.le_of_ble_eq_true rfl, Nat.le_of_ble_eq_true rfl⟩ (As := [.int x1]) (rest := []) rfl rfl (Nat.le_of_ble_eq_true rfl) dX4_setAlgorithm_1 ⟨Nat.le_of_ble_eq_true rfl, Nat.le_of_ble_eq_true rfl⟩ (fun r_2 s_1 hw => ?_)
  refine g_if_eq C 16 dX4_setAlgorithm_4 (by decide) (fun c_12 => ?_) (fun c_12 => ?_)
  · replace hw := hw.1 c_12
    refine g_iconst C (-1 : Int32) dX4_setAlgorithm_16 (by decide) ?_
    exact g_iret C hr hlk hw dX4_setAlgorithm_17
  · replace hw := hw.2 c_12
    refine g_iload_n C 2 dX4_setAlgorithm_7 rfl rfl ?_
    refine g_if_lt C 16 dX4_setAlgorithm_8 (by decide) (fun c_11 => ?_) (fun c_11 => ?_)
    · replace hw := hw.1 c_11
      refine g_iconst C (-1 : Int32) dX4_setAlgorithm_16 (by decide) ?_
      exact g_iret C hr hlk hw dX4_setAlgorithm_17
    · replace hw := hw.2 c_11
      refine g_iload_n C 2 dX4_setAlgorithm_11 rfl rfl ?_
      refine g_iconst C (4 : Int32) dX4_setAlgorithm_12 (by decide) ?_
      refine g_icmp_le C 18 dX4_setAlgorithm_13 (by decide) (fun c_10 => ?_) (fun c_10 => ?_)
      · replace hw := hw.1 c_10
        refine g_aload_n C 0 dX4_setAlgorithm_18 rfl rfl ?_
        refine g_iload_n C 1 dX4_setAlgorithm_19 rfl rfl ?_
        refine g_callVr C (c_X4_policyNumbered l G hO hwin hw) kX4_policyNumbered tw_341 (Rv.of C (C.win (by decide) (by decide)) rfl (ci := 4) rfl) rfl rfl ⟨Nat.le_of_ble_eq_true rfl, Nat.le_of_ble_eq_true rfl⟩ (As := [.int x1]) (rest := []) rfl rfl (Nat.le_of_ble_eq_true rfl) dX4_setAlgorithm_20 ⟨Nat.le_of_ble_eq_true rfl, Nat.le_of_ble_eq_true rfl⟩ (fun k_4 s_3 hw => ?_)
        have hk_4 := hw.1
        replace hw := hw.2
        refine g_astore_n C dX4_setAlgorithm_23 rfl (by decide) (lv' := [(3, .ref (gh G k_4)), (0, .ref (gh G 0)), (1, .int x1), (2, .int x2)]) rfl ?_
        refine g_aload_n C 0 dX4_setAlgorithm_24 rfl rfl ?_
        refine g_callVi C (c_X1_algorithm l G hO hwin hk_4 hw) kX1_algorithm tw_390 (Rv.of C (C.pol hk_4) (isPol.cell hk_4 G _) (ci := 1) rfl) rfl rfl ⟨Nat.le_of_ble_eq_true rfl, Nat.le_of_ble_eq_true rfl⟩ (As := []) (rest := []) rfl rfl (Nat.le_of_ble_eq_true rfl) dX4_setAlgorithm_25 ⟨Nat.le_of_ble_eq_true rfl, Nat.le_of_ble_eq_true rfl⟩ (fun r_6 s_5 hw => ?_)
        refine g_istore C dX4_setAlgorithm_28 (by decide) (lv' := [(4, .int r_6), (3, .ref (gh G k_4)), (0, .ref (gh G 0)), (1, .int x1), (2, .int x2)]) rfl ?_
        refine g_iload C 0 dX4_setAlgorithm_30 rfl ?_
        refine g_iload_n C 4 dX4_setAlgorithm_32 rfl rfl ?_
        refine g_icmp_ne C 39 dX4_setAlgorithm_33 (by decide) (fun c_9 => ?_) (fun c_9 => ?_)
        · replace hw := hw.2 c_9
          refine g_aload_n C 2 dX4_setAlgorithm_39 rfl rfl ?_
          refine g_get C inX4 (C.win (by decide) (by decide)) rfl rfl 3 (by decide) tw_292 rfl dX4_setAlgorithm_40 ?_
          refine g_iload_n C 3 dX4_setAlgorithm_43 rfl rfl ?_
          refine g_aload_n C 1 dX4_setAlgorithm_44 rfl rfl ?_
          refine g_callVv C (c_X0_remember l G hO hwin hk_4 hw) kX0_remember tw_345 (Rv.of C (C.win (by decide) (by decide)) rfl (ci := 0) rfl) rfl rfl ⟨Nat.le_of_ble_eq_true rfl, Nat.le_of_ble_eq_true rfl⟩ (As := [.int x1, .ref (gh G k_4)]) (rest := []) rfl rfl (Nat.le_of_ble_eq_true rfl) dX4_setAlgorithm_45 ⟨Nat.le_of_ble_eq_true rfl, Nat.le_of_ble_eq_true rfl⟩ (fun s_7 hw => ?_)
          refine g_aload_n C 1 dX4_setAlgorithm_48 rfl rfl ?_
          refine g_iload_n C 4 dX4_setAlgorithm_49 rfl rfl ?_
          refine g_callVv C (c_X1_use l G hO hwin hk_4 hw) kX1_use tw_394 (Rv.of C (C.pol hk_4) (isPol.cell hk_4 G _) (ci := 1) rfl) rfl rfl ⟨Nat.le_of_ble_eq_true rfl, Nat.le_of_ble_eq_true rfl⟩ (As := [.int x2]) (rest := []) rfl rfl (Nat.le_of_ble_eq_true rfl) dX4_setAlgorithm_50 ⟨Nat.le_of_ble_eq_true rfl, Nat.le_of_ble_eq_true rfl⟩ (fun s_8 hw => ?_)
          refine g_iload C 0 dX4_setAlgorithm_53 rfl ?_
          exact g_iret C hr hlk hw dX4_setAlgorithm_55
        · replace hw := hw.1 c_9
          refine g_bipush C (-3 : Int32) dX4_setAlgorithm_36 (by decide) ?_
          exact g_iret C hr hlk hw dX4_setAlgorithm_38
      · replace hw := hw.2 c_10
        refine g_iconst C (-1 : Int32) dX4_setAlgorithm_16 (by decide) ?_
        exact g_iret C hr hlk hw dX4_setAlgorithm_17

set_option maxHeartbeats 4000000 in
set_option maxRecDepth 100000 in
theorem c_X4_setTarget (l : Launch) (G : Gp) (hO : gOK G) (hwin : ∀ k, 0 ≤ k → k < 17 → k ∈ gks G) {x1 : Int32} {x2 : Int32} {x3 : Int32} {x4 : Int32}  {st : St} {Q : Int32 → St → Prop} (hw : wp_X4_setTarget x1 x2 x3 x4 st Q) : MI l G yX4_setTarget cX4_setTarget 7 (some .int) { frames := 3, cells := 0, slots := 0, locals := 62 } [.ref (gh G 0), .int x1, .int x2, .int x3, .int x4] st Q := by
  refine MI.of (own := RX4) (lo := 0) (hi := 17) hO hwin (by decide) rfl (Nat.le_of_ble_eq_true rfl) (fun p e s m args below meth c C hr hlk => ?_)
  refine g_lv (lv' := [(0, .ref (gh G 0)), (1, .int x1), (2, .int x2), (3, .int x3), (4, .int x4)]) rfl ?_
  unfold wp_X4_setTarget at hw
  refine g_aload_n C 0 dX4_setTarget_0 rfl rfl ?_
  refine g_iload_n C 1 dX4_setTarget_1 rfl rfl ?_
  refine g_iload_n C 2 dX4_setTarget_2 rfl rfl ?_
  refine g_callVi C (c_X4_isRule l G hO hwin hw) kX4_isRule tw_363 (Rv.of C (C.win (by decide) (by decide)) rfl (ci := 4) rfl) rfl rfl ⟨Nat.le_of_ble_eq_true rfl, Nat.le_of_ble_eq_true rfl⟩ (As := [.int x1, .int x2]) (rest := []) rfl rfl (Nat.le_of_ble_eq_true rfl) dX4_setTarget_3 ⟨Nat.le_of_ble_eq_true rfl, Nat.le_of_ble_eq_true rfl⟩ (fun r_2 s_1 hw => ?_)
  refine g_if_eq C 25 dX4_setTarget_6 (by decide) (fun c_16 => ?_) (fun c_16 => ?_)
  · replace hw := hw.1 c_16
    refine g_iconst C (-1 : Int32) dX4_setTarget_25 (by decide) ?_
    exact g_iret C hr hlk hw dX4_setTarget_26
  · replace hw := hw.2 c_16
    refine g_iload_n C 3 dX4_setTarget_9 rfl rfl ?_
    refine g_callSi C (c_X4_isAttribute l G hO hwin hw) kX4_isAttribute tw_399 rfl rfl ⟨Nat.le_of_ble_eq_true rfl, Nat.le_of_ble_eq_true rfl⟩ (As := [.int x3]) (rest := []) rfl rfl (Nat.le_of_ble_eq_true rfl) dX4_setTarget_10 ⟨Nat.le_of_ble_eq_true rfl, Nat.le_of_ble_eq_true rfl⟩ (fun r_4 s_3 hw => ?_)
    refine g_if_eq C 25 dX4_setTarget_13 (by decide) (fun c_15 => ?_) (fun c_15 => ?_)
    · replace hw := hw.1 c_15
      refine g_iconst C (-1 : Int32) dX4_setTarget_25 (by decide) ?_
      exact g_iret C hr hlk hw dX4_setTarget_26
    · replace hw := hw.2 c_15
      refine g_iload_n C 3 dX4_setTarget_16 rfl rfl ?_
      refine g_iload C 4 dX4_setTarget_17 rfl ?_
      refine g_callSi C (c_X4_isValueSet l G hO hwin hw) kX4_isValueSet tw_402 rfl rfl ⟨Nat.le_of_ble_eq_true rfl, Nat.le_of_ble_eq_true rfl⟩ (As := [.int x3, .int x4]) (rest := []) rfl rfl (Nat.le_of_ble_eq_true rfl) dX4_setTarget_19 ⟨Nat.le_of_ble_eq_true rfl, Nat.le_of_ble_eq_true rfl⟩ (fun r_6 s_5 hw => ?_)
      refine g_if_ne C 27 dX4_setTarget_22 (by decide) (fun c_14 => ?_) (fun c_14 => ?_)
      · replace hw := hw.2 c_14
        refine g_aload_n C 0 dX4_setTarget_27 rfl rfl ?_
        refine g_iload_n C 1 dX4_setTarget_28 rfl rfl ?_
        refine g_callVr C (c_X4_policyNumbered l G hO hwin hw) kX4_policyNumbered tw_341 (Rv.of C (C.win (by decide) (by decide)) rfl (ci := 4) rfl) rfl rfl ⟨Nat.le_of_ble_eq_true rfl, Nat.le_of_ble_eq_true rfl⟩ (As := [.int x1]) (rest := []) rfl rfl (Nat.le_of_ble_eq_true rfl) dX4_setTarget_29 ⟨Nat.le_of_ble_eq_true rfl, Nat.le_of_ble_eq_true rfl⟩ (fun k_8 s_7 hw => ?_)
        have hk_8 := hw.1
        replace hw := hw.2
        refine g_astore C dX4_setTarget_32 (by decide) (lv' := [(5, .ref (gh G k_8)), (0, .ref (gh G 0)), (1, .int x1), (2, .int x2), (3, .int x3), (4, .int x4)]) rfl ?_
        refine g_aload C 0 dX4_setTarget_34 rfl ?_
        refine g_iload_n C 3 dX4_setTarget_36 rfl rfl ?_
        refine g_iload_n C 4 dX4_setTarget_37 rfl rfl ?_
        refine g_callVi C (c_X1_valuesAt l G hO hwin hk_8 hw) kX1_valuesAt tw_406 (Rv.of C (C.pol hk_8) (isPol.cell hk_8 G _) (ci := 1) rfl) rfl rfl ⟨Nat.le_of_ble_eq_true rfl, Nat.le_of_ble_eq_true rfl⟩ (As := [.int x2, .int x3]) (rest := []) rfl rfl (Nat.le_of_ble_eq_true rfl) dX4_setTarget_38 ⟨Nat.le_of_ble_eq_true rfl, Nat.le_of_ble_eq_true rfl⟩ (fun r_10 s_9 hw => ?_)
        refine g_istore C dX4_setTarget_41 (by decide) (lv' := [(6, .int r_10), (5, .ref (gh G k_8)), (0, .ref (gh G 0)), (1, .int x1), (2, .int x2), (3, .int x3), (4, .int x4)]) rfl ?_
        refine g_iload C 0 dX4_setTarget_43 rfl ?_
        refine g_iload C 6 dX4_setTarget_45 rfl ?_
        refine g_icmp_ne C 53 dX4_setTarget_47 (by decide) (fun c_13 => ?_) (fun c_13 => ?_)
        · replace hw := hw.2 c_13
          refine g_aload_n C 2 dX4_setTarget_53 rfl rfl ?_
          refine g_get C inX4 (C.win (by decide) (by decide)) rfl rfl 3 (by decide) tw_292 rfl dX4_setTarget_54 ?_
          refine g_iload_n C 3 dX4_setTarget_57 rfl rfl ?_
          refine g_aload C 1 dX4_setTarget_58 rfl ?_
          refine g_callVv C (c_X0_remember l G hO hwin hk_8 hw) kX0_remember tw_345 (Rv.of C (C.win (by decide) (by decide)) rfl (ci := 0) rfl) rfl rfl ⟨Nat.le_of_ble_eq_true rfl, Nat.le_of_ble_eq_true rfl⟩ (As := [.int x1, .ref (gh G k_8)]) (rest := []) rfl rfl (Nat.le_of_ble_eq_true rfl) dX4_setTarget_60 ⟨Nat.le_of_ble_eq_true rfl, Nat.le_of_ble_eq_true rfl⟩ (fun s_11 hw => ?_)
          refine g_aload C 1 dX4_setTarget_63 rfl ?_
          refine g_iload_n C 4 dX4_setTarget_65 rfl rfl ?_
          refine g_iload_n C 5 dX4_setTarget_66 rfl rfl ?_
          refine g_iload C 6 dX4_setTarget_67 rfl ?_
          refine g_callVv C (c_X1_restrict l G hO hwin hk_8 hw) kX1_restrict tw_410 (Rv.of C (C.pol hk_8) (isPol.cell hk_8 G _) (ci := 1) rfl) rfl rfl ⟨Nat.le_of_ble_eq_true rfl, Nat.le_of_ble_eq_true rfl⟩ (As := [.int x2, .int x3, .int x4]) (rest := []) rfl rfl (Nat.le_of_ble_eq_true rfl) dX4_setTarget_69 ⟨Nat.le_of_ble_eq_true rfl, Nat.le_of_ble_eq_true rfl⟩ (fun s_12 hw => ?_)
          refine g_iload C 0 dX4_setTarget_72 rfl ?_
          exact g_iret C hr hlk hw dX4_setTarget_74
        · replace hw := hw.1 c_13
          refine g_bipush C (-3 : Int32) dX4_setTarget_50 (by decide) ?_
          exact g_iret C hr hlk hw dX4_setTarget_52
      · replace hw := hw.1 c_14
        refine g_iconst C (-1 : Int32) dX4_setTarget_25 (by decide) ?_
        exact g_iret C hr hlk hw dX4_setTarget_26

set_option maxHeartbeats 4000000 in
set_option maxRecDepth 100000 in
theorem c_X4_flipEffect (l : Launch) (G : Gp) (hO : gOK G) (hwin : ∀ k, 0 ≤ k → k < 17 → k ∈ gks G) {x1 : Int32} {x2 : Int32}  {st : St} {Q : Int32 → St → Prop} (hw : wp_X4_flipEffect x1 x2 st Q) : MI l G yX4_flipEffect cX4_flipEffect 4 (some .int) { frames := 3, cells := 0, slots := 0, locals := 62 } [.ref (gh G 0), .int x1, .int x2] st Q := by
  refine MI.of (own := RX4) (lo := 0) (hi := 17) hO hwin (by decide) rfl (Nat.le_of_ble_eq_true rfl) (fun p e s m args below meth c C hr hlk => ?_)
  refine g_lv (lv' := [(0, .ref (gh G 0)), (1, .int x1), (2, .int x2)]) rfl ?_
  unfold wp_X4_flipEffect at hw
  refine g_aload_n C 0 dX4_flipEffect_0 rfl rfl ?_
  refine g_iload_n C 1 dX4_flipEffect_1 rfl rfl ?_
  refine g_iload_n C 2 dX4_flipEffect_2 rfl rfl ?_
  refine g_callVi C (c_X4_isRule l G hO hwin hw) kX4_isRule tw_363 (Rv.of C (C.win (by decide) (by decide)) rfl (ci := 4) rfl) rfl rfl ⟨Nat.le_of_ble_eq_true rfl, Nat.le_of_ble_eq_true rfl⟩ (As := [.int x1, .int x2]) (rest := []) rfl rfl (Nat.le_of_ble_eq_true rfl) dX4_flipEffect_3 ⟨Nat.le_of_ble_eq_true rfl, Nat.le_of_ble_eq_true rfl⟩ (fun r_2 s_1 hw => ?_)
  refine g_if_ne C 11 dX4_flipEffect_6 (by decide) (fun c_9 => ?_) (fun c_9 => ?_)
  · replace hw := hw.2 c_9
    refine g_aload_n C 0 dX4_flipEffect_11 rfl rfl ?_
    refine g_iload_n C 1 dX4_flipEffect_12 rfl rfl ?_
    refine g_callVr C (c_X4_policyNumbered l G hO hwin hw) kX4_policyNumbered tw_341 (Rv.of C (C.win (by decide) (by decide)) rfl (ci := 4) rfl) rfl rfl ⟨Nat.le_of_ble_eq_true rfl, Nat.le_of_ble_eq_true rfl⟩ (As := [.int x1]) (rest := []) rfl rfl (Nat.le_of_ble_eq_true rfl) dX4_flipEffect_13 ⟨Nat.le_of_ble_eq_true rfl, Nat.le_of_ble_eq_true rfl⟩ (fun k_4 s_3 hw => ?_)
    have hk_4 := hw.1
    replace hw := hw.2
    refine g_astore_n C dX4_flipEffect_16 rfl (by decide) (lv' := [(3, .ref (gh G k_4)), (0, .ref (gh G 0)), (1, .int x1), (2, .int x2)]) rfl ?_
    refine g_aload_n C 1 dX4_flipEffect_17 rfl rfl ?_
    refine g_get C inX4 (C.win (by decide) (by decide)) rfl rfl 3 (by decide) tw_292 rfl dX4_flipEffect_18 ?_
    refine g_iload_n C 2 dX4_flipEffect_21 rfl rfl ?_
    refine g_aload_n C 0 dX4_flipEffect_22 rfl rfl ?_
    refine g_callVv C (c_X0_remember l G hO hwin hk_4 hw) kX0_remember tw_345 (Rv.of C (C.win (by decide) (by decide)) rfl (ci := 0) rfl) rfl rfl ⟨Nat.le_of_ble_eq_true rfl, Nat.le_of_ble_eq_true rfl⟩ (As := [.int x1, .ref (gh G k_4)]) (rest := []) rfl rfl (Nat.le_of_ble_eq_true rfl) dX4_flipEffect_23 ⟨Nat.le_of_ble_eq_true rfl, Nat.le_of_ble_eq_true rfl⟩ (fun s_5 hw => ?_)
    refine g_aload_n C 0 dX4_flipEffect_26 rfl rfl ?_
    refine g_iload_n C 3 dX4_flipEffect_27 rfl rfl ?_
    refine g_callVv C (c_X1_turnEffect l G hO hwin hk_4 hw) kX1_turnEffect tw_415 (Rv.of C (C.pol hk_4) (isPol.cell hk_4 G _) (ci := 1) rfl) rfl rfl ⟨Nat.le_of_ble_eq_true rfl, Nat.le_of_ble_eq_true rfl⟩ (As := [.int x2]) (rest := []) rfl rfl (Nat.le_of_ble_eq_true rfl) dX4_flipEffect_28 ⟨Nat.le_of_ble_eq_true rfl, Nat.le_of_ble_eq_true rfl⟩ (fun s_6 hw => ?_)
    refine g_aload_n C 0 dX4_flipEffect_31 rfl rfl ?_
    refine g_iload_n C 3 dX4_flipEffect_32 rfl rfl ?_
    refine g_callVi C (c_X1_effectAt l G hO hwin hk_4 hw) kX1_effectAt tw_382 (Rv.of C (C.pol hk_4) (isPol.cell hk_4 G _) (ci := 1) rfl) rfl rfl ⟨Nat.le_of_ble_eq_true rfl, Nat.le_of_ble_eq_true rfl⟩ (As := [.int x2]) (rest := []) rfl rfl (Nat.le_of_ble_eq_true rfl) dX4_flipEffect_33 ⟨Nat.le_of_ble_eq_true rfl, Nat.le_of_ble_eq_true rfl⟩ (fun r_8 s_7 hw => ?_)
    exact g_iret C hr hlk hw dX4_flipEffect_36
  · replace hw := hw.1 c_9
    refine g_iconst C (-1 : Int32) dX4_flipEffect_9 (by decide) ?_
    exact g_iret C hr hlk hw dX4_flipEffect_10

set_option maxHeartbeats 4000000 in
set_option maxRecDepth 100000 in
theorem c_X4_copyOldToNew (l : Launch) (G : Gp) (hO : gOK G) (hwin : ∀ k, 0 ≤ k → k < 17 → k ∈ gks G)   {st : St} {Q : Int32 → St → Prop} (hw : wp_X4_copyOldToNew  st Q) : MI l G yX4_copyOldToNew cX4_copyOldToNew 1 (some .int) { frames := 3, cells := 0, slots := 0, locals := 62 } [.ref (gh G 0)] st Q := by
  refine MI.of (own := RX4) (lo := 0) (hi := 17) hO hwin (by decide) rfl (Nat.le_of_ble_eq_true rfl) (fun p e s m args below meth c C hr hlk => ?_)
  refine g_lv (lv' := [(0, .ref (gh G 0))]) rfl ?_
  unfold wp_X4_copyOldToNew at hw
  refine g_aload_n C 0 dX4_copyOldToNew_0 rfl rfl ?_
  refine g_get C inX4 (C.win (by decide) (by decide)) rfl rfl 3 (by decide) tw_292 rfl dX4_copyOldToNew_1 ?_
  refine g_iconst C (1 : Int32) dX4_copyOldToNew_4 (by decide) ?_
  refine g_aload_n C 0 dX4_copyOldToNew_5 rfl rfl ?_
  refine g_get C inX4 (C.win (by decide) (by decide)) rfl rfl 1 (by decide) tw_290 rfl dX4_copyOldToNew_6 ?_
  refine g_callVv C (c_X0_remember l G hO hwin (Or.inr (Or.inl rfl)) hw) kX0_remember tw_345 (Rv.of C (C.win (by decide) (by decide)) rfl (ci := 0) rfl) rfl rfl ⟨Nat.le_of_ble_eq_true rfl, Nat.le_of_ble_eq_true rfl⟩ (As := [.int (1 : Int32), .ref (gh G 3)]) (rest := []) rfl rfl (Nat.le_of_ble_eq_true rfl) dX4_copyOldToNew_9 ⟨Nat.le_of_ble_eq_true rfl, Nat.le_of_ble_eq_true rfl⟩ (fun s_1 hw => ?_)
  refine g_aload_n C 0 dX4_copyOldToNew_12 rfl rfl ?_
  refine g_get C inX4 (C.win (by decide) (by decide)) rfl rfl 1 (by decide) tw_290 rfl dX4_copyOldToNew_13 ?_
  refine g_aload_n C 0 dX4_copyOldToNew_16 rfl rfl ?_
  refine g_get C inX4 (C.win (by decide) (by decide)) rfl rfl 0 (by decide) tw_289 rfl dX4_copyOldToNew_17 ?_
  refine g_callVv C (c_X1_copyFrom l G hO hwin (Or.inr (Or.inl rfl)) (Or.inl rfl) hw) kX1_copyFrom tw_274 (Rv.of C (C.pol (Or.inr (Or.inl rfl))) (isPol.cell (Or.inr (Or.inl rfl)) G _) (ci := 1) rfl) rfl rfl ⟨Nat.le_of_ble_eq_true rfl, Nat.le_of_ble_eq_true rfl⟩ (As := [.ref (gh G 1)]) (rest := []) rfl rfl (Nat.le_of_ble_eq_true rfl) dX4_copyOldToNew_20 ⟨Nat.le_of_ble_eq_true rfl, Nat.le_of_ble_eq_true rfl⟩ (fun s_2 hw => ?_)
  refine g_aload_n C 0 dX4_copyOldToNew_23 rfl rfl ?_
  refine g_get C inX4 (C.win (by decide) (by decide)) rfl rfl 1 (by decide) tw_290 rfl dX4_copyOldToNew_24 ?_
  refine g_callVi C (c_X1_size l G hO hwin (Or.inr (Or.inl rfl)) hw) kX1_size tw_330 (Rv.of C (C.pol (Or.inr (Or.inl rfl))) (isPol.cell (Or.inr (Or.inl rfl)) G _) (ci := 1) rfl) rfl rfl ⟨Nat.le_of_ble_eq_true rfl, Nat.le_of_ble_eq_true rfl⟩ (As := []) (rest := []) rfl rfl (Nat.le_of_ble_eq_true rfl) dX4_copyOldToNew_27 ⟨Nat.le_of_ble_eq_true rfl, Nat.le_of_ble_eq_true rfl⟩ (fun r_4 s_3 hw => ?_)
  exact g_iret C hr hlk hw dX4_copyOldToNew_30

set_option maxHeartbeats 4000000 in
set_option maxRecDepth 100000 in
theorem c_X4_undo (l : Launch) (G : Gp) (hO : gOK G) (hwin : ∀ k, 0 ≤ k → k < 17 → k ∈ gks G)   {st : St} {Q : Int32 → St → Prop} (hw : wp_X4_undo  st Q) : MI l G yX4_undo cX4_undo 1 (some .int) { frames := 3, cells := 0, slots := 0, locals := 61 } [.ref (gh G 0)] st Q := by
  refine MI.of (own := RX4) (lo := 0) (hi := 17) hO hwin (by decide) rfl (Nat.le_of_ble_eq_true rfl) (fun p e s m args below meth c C hr hlk => ?_)
  refine g_lv (lv' := [(0, .ref (gh G 0))]) rfl ?_
  unfold wp_X4_undo at hw
  refine g_aload_n C 0 dX4_undo_0 rfl rfl ?_
  refine g_get C inX4 (C.win (by decide) (by decide)) rfl rfl 3 (by decide) tw_292 rfl dX4_undo_1 ?_
  refine g_callVi C (c_X0_size l G hO hwin hw) kX0_size tw_427 (Rv.of C (C.win (by decide) (by decide)) rfl (ci := 0) rfl) rfl rfl ⟨Nat.le_of_ble_eq_true rfl, Nat.le_of_ble_eq_true rfl⟩ (As := []) (rest := []) rfl rfl (Nat.le_of_ble_eq_true rfl) dX4_undo_4 ⟨Nat.le_of_ble_eq_true rfl, Nat.le_of_ble_eq_true rfl⟩ (fun r_2 s_1 hw => ?_)
  refine g_if_ne C 13 dX4_undo_7 (by decide) (fun c_10 => ?_) (fun c_10 => ?_)
  · replace hw := hw.2 c_10
    refine g_aload_n C 0 dX4_undo_13 rfl rfl ?_
    refine g_get C inX4 (C.win (by decide) (by decide)) rfl rfl 3 (by decide) tw_292 rfl dX4_undo_14 ?_
    refine g_aload_n C 0 dX4_undo_17 rfl rfl ?_
    refine g_aload_n C 0 dX4_undo_18 rfl rfl ?_
    refine g_get C inX4 (C.win (by decide) (by decide)) rfl rfl 3 (by decide) tw_292 rfl dX4_undo_19 ?_
    refine g_callVi C (c_X0_latestNumber l G hO hwin hw) kX0_latestNumber tw_431 (Rv.of C (C.win (by decide) (by decide)) rfl (ci := 0) rfl) rfl rfl ⟨Nat.le_of_ble_eq_true rfl, Nat.le_of_ble_eq_true rfl⟩ (As := []) (rest := [.ref (gh G 0), .ref (gh G 11)]) rfl rfl (Nat.le_of_ble_eq_true rfl) dX4_undo_22 ⟨Nat.le_of_ble_eq_true rfl, Nat.le_of_ble_eq_true rfl⟩ (fun r_4 s_3 hw => ?_)
    refine g_callVr C (c_X4_policyNumbered l G hO hwin hw) kX4_policyNumbered tw_341 (Rv.of C (C.win (by decide) (by decide)) rfl (ci := 4) rfl) rfl rfl ⟨Nat.le_of_ble_eq_true rfl, Nat.le_of_ble_eq_true rfl⟩ (As := [.int r_4]) (rest := [.ref (gh G 11)]) rfl rfl (Nat.le_of_ble_eq_true rfl) dX4_undo_25 ⟨Nat.le_of_ble_eq_true rfl, Nat.le_of_ble_eq_true rfl⟩ (fun k_6 s_5 hw => ?_)
    have hk_6 := hw.1
    replace hw := hw.2
    refine g_callVv C (c_X0_recallInto l G hO hwin hk_6 hw) kX0_recallInto tw_435 (Rv.of C (C.win (by decide) (by decide)) rfl (ci := 0) rfl) rfl rfl ⟨Nat.le_of_ble_eq_true rfl, Nat.le_of_ble_eq_true rfl⟩ (As := [.ref (gh G k_6)]) (rest := []) rfl rfl (Nat.le_of_ble_eq_true rfl) dX4_undo_28 ⟨Nat.le_of_ble_eq_true rfl, Nat.le_of_ble_eq_true rfl⟩ (fun s_7 hw => ?_)
    refine g_aload_n C 0 dX4_undo_31 rfl rfl ?_
    refine g_get C inX4 (C.win (by decide) (by decide)) rfl rfl 3 (by decide) tw_292 rfl dX4_undo_32 ?_
    refine g_callVi C (c_X0_size l G hO hwin hw) kX0_size tw_427 (Rv.of C (C.win (by decide) (by decide)) rfl (ci := 0) rfl) rfl rfl ⟨Nat.le_of_ble_eq_true rfl, Nat.le_of_ble_eq_true rfl⟩ (As := []) (rest := []) rfl rfl (Nat.le_of_ble_eq_true rfl) dX4_undo_35 ⟨Nat.le_of_ble_eq_true rfl, Nat.le_of_ble_eq_true rfl⟩ (fun r_9 s_8 hw => ?_)
    exact g_iret C hr hlk hw dX4_undo_38
  · replace hw := hw.1 c_10
    refine g_bipush C (-3 : Int32) dX4_undo_10 (by decide) ?_
    exact g_iret C hr hlk hw dX4_undo_12

set_option maxHeartbeats 4000000 in
set_option maxRecDepth 100000 in
theorem c_X4_ruleCount (l : Launch) (G : Gp) (hO : gOK G) (hwin : ∀ k, 0 ≤ k → k < 17 → k ∈ gks G) {x1 : Int32}  {st : St} {Q : Int32 → St → Prop} (hw : wp_X4_ruleCount x1 st Q) : MI l G yX4_ruleCount cX4_ruleCount 2 (some .int) { frames := 1, cells := 0, slots := 0, locals := 21 } [.ref (gh G 0), .int x1] st Q := by
  refine MI.of (own := RX4) (lo := 0) (hi := 17) hO hwin (by decide) rfl (Nat.le_of_ble_eq_true rfl) (fun p e s m args below meth c C hr hlk => ?_)
  refine g_lv (lv' := [(0, .ref (gh G 0)), (1, .int x1)]) rfl ?_
  unfold wp_X4_ruleCount at hw
  refine g_iload_n C 1 dX4_ruleCount_0 rfl rfl ?_
  refine g_callSi C (c_X4_isPolicy l G hO hwin hw) kX4_isPolicy tw_335 rfl rfl ⟨Nat.le_of_ble_eq_true rfl, Nat.le_of_ble_eq_true rfl⟩ (As := [.int x1]) (rest := []) rfl rfl (Nat.le_of_ble_eq_true rfl) dX4_ruleCount_1 ⟨Nat.le_of_ble_eq_true rfl, Nat.le_of_ble_eq_true rfl⟩ (fun r_2 s_1 hw => ?_)
  refine g_if_eq C 18 dX4_ruleCount_4 (by decide) (fun c_7 => ?_) (fun c_7 => ?_)
  · replace hw := hw.1 c_7
    refine g_iconst C (-1 : Int32) dX4_ruleCount_18 (by decide) ?_
    exact g_iret C hr hlk hw dX4_ruleCount_19
  · replace hw := hw.2 c_7
    refine g_aload_n C 0 dX4_ruleCount_7 rfl rfl ?_
    refine g_iload_n C 1 dX4_ruleCount_8 rfl rfl ?_
    refine g_callVr C (c_X4_policyNumbered l G hO hwin hw) kX4_policyNumbered tw_341 (Rv.of C (C.win (by decide) (by decide)) rfl (ci := 4) rfl) rfl rfl ⟨Nat.le_of_ble_eq_true rfl, Nat.le_of_ble_eq_true rfl⟩ (As := [.int x1]) (rest := []) rfl rfl (Nat.le_of_ble_eq_true rfl) dX4_ruleCount_9 ⟨Nat.le_of_ble_eq_true rfl, Nat.le_of_ble_eq_true rfl⟩ (fun k_4 s_3 hw => ?_)
    have hk_4 := hw.1
    replace hw := hw.2
    refine g_callVi C (c_X1_size l G hO hwin hk_4 hw) kX1_size tw_330 (Rv.of C (C.pol hk_4) (isPol.cell hk_4 G _) (ci := 1) rfl) rfl rfl ⟨Nat.le_of_ble_eq_true rfl, Nat.le_of_ble_eq_true rfl⟩ (As := []) (rest := []) rfl rfl (Nat.le_of_ble_eq_true rfl) dX4_ruleCount_12 ⟨Nat.le_of_ble_eq_true rfl, Nat.le_of_ble_eq_true rfl⟩ (fun r_6 s_5 hw => ?_)
    refine g_goto C 19 dX4_ruleCount_15 (by decide) ?_
    exact g_iret C hr hlk hw dX4_ruleCount_19

set_option maxHeartbeats 4000000 in
set_option maxRecDepth 100000 in
theorem c_X4_effectOf (l : Launch) (G : Gp) (hO : gOK G) (hwin : ∀ k, 0 ≤ k → k < 17 → k ∈ gks G) {x1 : Int32} {x2 : Int32}  {st : St} {Q : Int32 → St → Prop} (hw : wp_X4_effectOf x1 x2 st Q) : MI l G yX4_effectOf cX4_effectOf 3 (some .int) { frames := 2, cells := 0, slots := 0, locals := 43 } [.ref (gh G 0), .int x1, .int x2] st Q := by
  refine MI.of (own := RX4) (lo := 0) (hi := 17) hO hwin (by decide) rfl (Nat.le_of_ble_eq_true rfl) (fun p e s m args below meth c C hr hlk => ?_)
  refine g_lv (lv' := [(0, .ref (gh G 0)), (1, .int x1), (2, .int x2)]) rfl ?_
  unfold wp_X4_effectOf at hw
  refine g_aload_n C 0 dX4_effectOf_0 rfl rfl ?_
  refine g_iload_n C 1 dX4_effectOf_1 rfl rfl ?_
  refine g_iload_n C 2 dX4_effectOf_2 rfl rfl ?_
  refine g_callVi C (c_X4_isRule l G hO hwin hw) kX4_isRule tw_363 (Rv.of C (C.win (by decide) (by decide)) rfl (ci := 4) rfl) rfl rfl ⟨Nat.le_of_ble_eq_true rfl, Nat.le_of_ble_eq_true rfl⟩ (As := [.int x1, .int x2]) (rest := []) rfl rfl (Nat.le_of_ble_eq_true rfl) dX4_effectOf_3 ⟨Nat.le_of_ble_eq_true rfl, Nat.le_of_ble_eq_true rfl⟩ (fun r_2 s_1 hw => ?_)
  refine g_if_eq C 21 dX4_effectOf_6 (by decide) (fun c_7 => ?_) (fun c_7 => ?_)
  · replace hw := hw.1 c_7
    refine g_iconst C (-1 : Int32) dX4_effectOf_21 (by decide) ?_
    exact g_iret C hr hlk hw dX4_effectOf_22
  · replace hw := hw.2 c_7
    refine g_aload_n C 0 dX4_effectOf_9 rfl rfl ?_
    refine g_iload_n C 1 dX4_effectOf_10 rfl rfl ?_
    refine g_callVr C (c_X4_policyNumbered l G hO hwin hw) kX4_policyNumbered tw_341 (Rv.of C (C.win (by decide) (by decide)) rfl (ci := 4) rfl) rfl rfl ⟨Nat.le_of_ble_eq_true rfl, Nat.le_of_ble_eq_true rfl⟩ (As := [.int x1]) (rest := []) rfl rfl (Nat.le_of_ble_eq_true rfl) dX4_effectOf_11 ⟨Nat.le_of_ble_eq_true rfl, Nat.le_of_ble_eq_true rfl⟩ (fun k_4 s_3 hw => ?_)
    have hk_4 := hw.1
    replace hw := hw.2
    refine g_iload_n C 2 dX4_effectOf_14 rfl rfl ?_
    refine g_callVi C (c_X1_effectAt l G hO hwin hk_4 hw) kX1_effectAt tw_382 (Rv.of C (C.pol hk_4) (isPol.cell hk_4 G _) (ci := 1) rfl) rfl rfl ⟨Nat.le_of_ble_eq_true rfl, Nat.le_of_ble_eq_true rfl⟩ (As := [.int x2]) (rest := []) rfl rfl (Nat.le_of_ble_eq_true rfl) dX4_effectOf_15 ⟨Nat.le_of_ble_eq_true rfl, Nat.le_of_ble_eq_true rfl⟩ (fun r_6 s_5 hw => ?_)
    refine g_goto C 22 dX4_effectOf_18 (by decide) ?_
    exact g_iret C hr hlk hw dX4_effectOf_22

set_option maxHeartbeats 4000000 in
set_option maxRecDepth 100000 in
theorem c_X4_targetOf (l : Launch) (G : Gp) (hO : gOK G) (hwin : ∀ k, 0 ≤ k → k < 17 → k ∈ gks G) {x1 : Int32} {x2 : Int32} {x3 : Int32}  {st : St} {Q : Int32 → St → Prop} (hw : wp_X4_targetOf x1 x2 x3 st Q) : MI l G yX4_targetOf cX4_targetOf 4 (some .int) { frames := 2, cells := 0, slots := 0, locals := 43 } [.ref (gh G 0), .int x1, .int x2, .int x3] st Q := by
  refine MI.of (own := RX4) (lo := 0) (hi := 17) hO hwin (by decide) rfl (Nat.le_of_ble_eq_true rfl) (fun p e s m args below meth c C hr hlk => ?_)
  refine g_lv (lv' := [(0, .ref (gh G 0)), (1, .int x1), (2, .int x2), (3, .int x3)]) rfl ?_
  unfold wp_X4_targetOf at hw
  refine g_aload_n C 0 dX4_targetOf_0 rfl rfl ?_
  refine g_iload_n C 1 dX4_targetOf_1 rfl rfl ?_
  refine g_iload_n C 2 dX4_targetOf_2 rfl rfl ?_
  refine g_callVi C (c_X4_isRule l G hO hwin hw) kX4_isRule tw_363 (Rv.of C (C.win (by decide) (by decide)) rfl (ci := 4) rfl) rfl rfl ⟨Nat.le_of_ble_eq_true rfl, Nat.le_of_ble_eq_true rfl⟩ (As := [.int x1, .int x2]) (rest := []) rfl rfl (Nat.le_of_ble_eq_true rfl) dX4_targetOf_3 ⟨Nat.le_of_ble_eq_true rfl, Nat.le_of_ble_eq_true rfl⟩ (fun r_2 s_1 hw => ?_)
  refine g_if_eq C 16 dX4_targetOf_6 (by decide) (fun c_10 => ?_) (fun c_10 => ?_)
  · replace hw := hw.1 c_10
    refine g_iconst C (-1 : Int32) dX4_targetOf_16 (by decide) ?_
    exact g_iret C hr hlk hw dX4_targetOf_17
  · replace hw := hw.2 c_10
    refine g_iload_n C 3 dX4_targetOf_9 rfl rfl ?_
    refine g_callSi C (c_X4_isAttribute l G hO hwin hw) kX4_isAttribute tw_399 rfl rfl ⟨Nat.le_of_ble_eq_true rfl, Nat.le_of_ble_eq_true rfl⟩ (As := [.int x3]) (rest := []) rfl rfl (Nat.le_of_ble_eq_true rfl) dX4_targetOf_10 ⟨Nat.le_of_ble_eq_true rfl, Nat.le_of_ble_eq_true rfl⟩ (fun r_4 s_3 hw => ?_)
    refine g_if_ne C 18 dX4_targetOf_13 (by decide) (fun c_9 => ?_) (fun c_9 => ?_)
    · replace hw := hw.2 c_9
      refine g_aload_n C 0 dX4_targetOf_18 rfl rfl ?_
      refine g_iload_n C 1 dX4_targetOf_19 rfl rfl ?_
      refine g_callVr C (c_X4_policyNumbered l G hO hwin hw) kX4_policyNumbered tw_341 (Rv.of C (C.win (by decide) (by decide)) rfl (ci := 4) rfl) rfl rfl ⟨Nat.le_of_ble_eq_true rfl, Nat.le_of_ble_eq_true rfl⟩ (As := [.int x1]) (rest := []) rfl rfl (Nat.le_of_ble_eq_true rfl) dX4_targetOf_20 ⟨Nat.le_of_ble_eq_true rfl, Nat.le_of_ble_eq_true rfl⟩ (fun k_6 s_5 hw => ?_)
      have hk_6 := hw.1
      replace hw := hw.2
      refine g_iload_n C 2 dX4_targetOf_23 rfl rfl ?_
      refine g_iload_n C 3 dX4_targetOf_24 rfl rfl ?_
      refine g_callVi C (c_X1_valuesAt l G hO hwin hk_6 hw) kX1_valuesAt tw_406 (Rv.of C (C.pol hk_6) (isPol.cell hk_6 G _) (ci := 1) rfl) rfl rfl ⟨Nat.le_of_ble_eq_true rfl, Nat.le_of_ble_eq_true rfl⟩ (As := [.int x2, .int x3]) (rest := []) rfl rfl (Nat.le_of_ble_eq_true rfl) dX4_targetOf_25 ⟨Nat.le_of_ble_eq_true rfl, Nat.le_of_ble_eq_true rfl⟩ (fun r_8 s_7 hw => ?_)
      exact g_iret C hr hlk hw dX4_targetOf_28
    · replace hw := hw.1 c_9
      refine g_iconst C (-1 : Int32) dX4_targetOf_16 (by decide) ?_
      exact g_iret C hr hlk hw dX4_targetOf_17

set_option maxHeartbeats 4000000 in
set_option maxRecDepth 100000 in
theorem c_X4_algorithmOf (l : Launch) (G : Gp) (hO : gOK G) (hwin : ∀ k, 0 ≤ k → k < 17 → k ∈ gks G) {x1 : Int32}  {st : St} {Q : Int32 → St → Prop} (hw : wp_X4_algorithmOf x1 st Q) : MI l G yX4_algorithmOf cX4_algorithmOf 2 (some .int) { frames := 1, cells := 0, slots := 0, locals := 21 } [.ref (gh G 0), .int x1] st Q := by
  refine MI.of (own := RX4) (lo := 0) (hi := 17) hO hwin (by decide) rfl (Nat.le_of_ble_eq_true rfl) (fun p e s m args below meth c C hr hlk => ?_)
  refine g_lv (lv' := [(0, .ref (gh G 0)), (1, .int x1)]) rfl ?_
  unfold wp_X4_algorithmOf at hw
  refine g_iload_n C 1 dX4_algorithmOf_0 rfl rfl ?_
  refine g_callSi C (c_X4_isPolicy l G hO hwin hw) kX4_isPolicy tw_335 rfl rfl ⟨Nat.le_of_ble_eq_true rfl, Nat.le_of_ble_eq_true rfl⟩ (As := [.int x1]) (rest := []) rfl rfl (Nat.le_of_ble_eq_true rfl) dX4_algorithmOf_1 ⟨Nat.le_of_ble_eq_true rfl, Nat.le_of_ble_eq_true rfl⟩ (fun r_2 s_1 hw => ?_)
  refine g_if_eq C 18 dX4_algorithmOf_4 (by decide) (fun c_7 => ?_) (fun c_7 => ?_)
  · replace hw := hw.1 c_7
    refine g_iconst C (-1 : Int32) dX4_algorithmOf_18 (by decide) ?_
    exact g_iret C hr hlk hw dX4_algorithmOf_19
  · replace hw := hw.2 c_7
    refine g_aload_n C 0 dX4_algorithmOf_7 rfl rfl ?_
    refine g_iload_n C 1 dX4_algorithmOf_8 rfl rfl ?_
    refine g_callVr C (c_X4_policyNumbered l G hO hwin hw) kX4_policyNumbered tw_341 (Rv.of C (C.win (by decide) (by decide)) rfl (ci := 4) rfl) rfl rfl ⟨Nat.le_of_ble_eq_true rfl, Nat.le_of_ble_eq_true rfl⟩ (As := [.int x1]) (rest := []) rfl rfl (Nat.le_of_ble_eq_true rfl) dX4_algorithmOf_9 ⟨Nat.le_of_ble_eq_true rfl, Nat.le_of_ble_eq_true rfl⟩ (fun k_4 s_3 hw => ?_)
    have hk_4 := hw.1
    replace hw := hw.2
    refine g_callVi C (c_X1_algorithm l G hO hwin hk_4 hw) kX1_algorithm tw_390 (Rv.of C (C.pol hk_4) (isPol.cell hk_4 G _) (ci := 1) rfl) rfl rfl ⟨Nat.le_of_ble_eq_true rfl, Nat.le_of_ble_eq_true rfl⟩ (As := []) (rest := []) rfl rfl (Nat.le_of_ble_eq_true rfl) dX4_algorithmOf_12 ⟨Nat.le_of_ble_eq_true rfl, Nat.le_of_ble_eq_true rfl⟩ (fun r_6 s_5 hw => ?_)
    refine g_goto C 19 dX4_algorithmOf_15 (by decide) ?_
    exact g_iret C hr hlk hw dX4_algorithmOf_19

set_option maxHeartbeats 4000000 in
set_option maxRecDepth 100000 in
theorem c_X4_decide (l : Launch) (G : Gp) (hO : gOK G) (hwin : ∀ k, 0 ≤ k → k < 17 → k ∈ gks G) {x1 : Int32} {x2 : Int32}  {st : St} {Q : Int32 → St → Prop} (hw : wp_X4_decide x1 x2 st Q) : MI l G yX4_decide cX4_decide 3 (some .int) { frames := 3, cells := 0, slots := 0, locals := 64 } [.ref (gh G 0), .int x1, .int x2] st Q := by
  refine MI.of (own := RX4) (lo := 0) (hi := 17) hO hwin (by decide) rfl (Nat.le_of_ble_eq_true rfl) (fun p e s m args below meth c C hr hlk => ?_)
  refine g_lv (lv' := [(0, .ref (gh G 0)), (1, .int x1), (2, .int x2)]) rfl ?_
  unfold wp_X4_decide at hw
  refine g_iload_n C 1 dX4_decide_0 rfl rfl ?_
  refine g_callSi C (c_X4_isPolicy l G hO hwin hw) kX4_isPolicy tw_335 rfl rfl ⟨Nat.le_of_ble_eq_true rfl, Nat.le_of_ble_eq_true rfl⟩ (As := [.int x1]) (rest := []) rfl rfl (Nat.le_of_ble_eq_true rfl) dX4_decide_1 ⟨Nat.le_of_ble_eq_true rfl, Nat.le_of_ble_eq_true rfl⟩ (fun r_2 s_1 hw => ?_)
  refine g_if_eq C 14 dX4_decide_4 (by decide) (fun c_10 => ?_) (fun c_10 => ?_)
  · replace hw := hw.1 c_10
    refine g_iconst C (-1 : Int32) dX4_decide_14 (by decide) ?_
    exact g_iret C hr hlk hw dX4_decide_15
  · replace hw := hw.2 c_10
    refine g_iload_n C 2 dX4_decide_7 rfl rfl ?_
    refine g_callSi C (c_X4_isRequest l G hO hwin hw) kX4_isRequest tw_463 rfl rfl ⟨Nat.le_of_ble_eq_true rfl, Nat.le_of_ble_eq_true rfl⟩ (As := [.int x2]) (rest := []) rfl rfl (Nat.le_of_ble_eq_true rfl) dX4_decide_8 ⟨Nat.le_of_ble_eq_true rfl, Nat.le_of_ble_eq_true rfl⟩ (fun r_4 s_3 hw => ?_)
    refine g_if_ne C 16 dX4_decide_11 (by decide) (fun c_9 => ?_) (fun c_9 => ?_)
    · replace hw := hw.2 c_9
      refine g_aload_n C 0 dX4_decide_16 rfl rfl ?_
      refine g_iload_n C 1 dX4_decide_17 rfl rfl ?_
      refine g_callVr C (c_X4_policyNumbered l G hO hwin hw) kX4_policyNumbered tw_341 (Rv.of C (C.win (by decide) (by decide)) rfl (ci := 4) rfl) rfl rfl ⟨Nat.le_of_ble_eq_true rfl, Nat.le_of_ble_eq_true rfl⟩ (As := [.int x1]) (rest := []) rfl rfl (Nat.le_of_ble_eq_true rfl) dX4_decide_18 ⟨Nat.le_of_ble_eq_true rfl, Nat.le_of_ble_eq_true rfl⟩ (fun k_6 s_5 hw => ?_)
      have hk_6 := hw.1
      replace hw := hw.2
      refine g_iload_n C 2 dX4_decide_21 rfl rfl ?_
      refine g_callVi C (c_X1_decisionOn l G hO hwin hk_6 hw) kX1_decisionOn tw_466 (Rv.of C (C.pol hk_6) (isPol.cell hk_6 G _) (ci := 1) rfl) rfl rfl ⟨Nat.le_of_ble_eq_true rfl, Nat.le_of_ble_eq_true rfl⟩ (As := [.int x2]) (rest := []) rfl rfl (Nat.le_of_ble_eq_true rfl) dX4_decide_22 ⟨Nat.le_of_ble_eq_true rfl, Nat.le_of_ble_eq_true rfl⟩ (fun r_8 s_7 hw => ?_)
      exact g_iret C hr hlk hw dX4_decide_25
    · replace hw := hw.1 c_9
      refine g_iconst C (-1 : Int32) dX4_decide_14 (by decide) ?_
      exact g_iret C hr hlk hw dX4_decide_15

set_option maxHeartbeats 4000000 in
set_option maxRecDepth 100000 in
theorem c_X4_decisionCount (l : Launch) (G : Gp) (hO : gOK G) (hwin : ∀ k, 0 ≤ k → k < 17 → k ∈ gks G) {x1 : Int32} {x2 : Int32}  {st : St} {Q : Int32 → St → Prop} (hw : wp_X4_decisionCount x1 x2 st Q) : MI l G yX4_decisionCount cX4_decisionCount 3 (some .int) { frames := 4, cells := 0, slots := 0, locals := 87 } [.ref (gh G 0), .int x1, .int x2] st Q := by
  refine MI.of (own := RX4) (lo := 0) (hi := 17) hO hwin (by decide) rfl (Nat.le_of_ble_eq_true rfl) (fun p e s m args below meth c C hr hlk => ?_)
  refine g_lv (lv' := [(0, .ref (gh G 0)), (1, .int x1), (2, .int x2)]) rfl ?_
  unfold wp_X4_decisionCount at hw
  refine g_iload_n C 1 dX4_decisionCount_0 rfl rfl ?_
  refine g_callSi C (c_X4_isPolicy l G hO hwin hw) kX4_isPolicy tw_335 rfl rfl ⟨Nat.le_of_ble_eq_true rfl, Nat.le_of_ble_eq_true rfl⟩ (As := [.int x1]) (rest := []) rfl rfl (Nat.le_of_ble_eq_true rfl) dX4_decisionCount_1 ⟨Nat.le_of_ble_eq_true rfl, Nat.le_of_ble_eq_true rfl⟩ (fun r_2 s_1 hw => ?_)
  refine g_if_eq C 14 dX4_decisionCount_4 (by decide) (fun c_10 => ?_) (fun c_10 => ?_)
  · replace hw := hw.1 c_10
    refine g_iconst C (-1 : Int32) dX4_decisionCount_14 (by decide) ?_
    exact g_iret C hr hlk hw dX4_decisionCount_15
  · replace hw := hw.2 c_10
    refine g_iload_n C 2 dX4_decisionCount_7 rfl rfl ?_
    refine g_callSi C (c_X4_isDecision l G hO hwin hw) kX4_isDecision tw_494 rfl rfl ⟨Nat.le_of_ble_eq_true rfl, Nat.le_of_ble_eq_true rfl⟩ (As := [.int x2]) (rest := []) rfl rfl (Nat.le_of_ble_eq_true rfl) dX4_decisionCount_8 ⟨Nat.le_of_ble_eq_true rfl, Nat.le_of_ble_eq_true rfl⟩ (fun r_4 s_3 hw => ?_)
    refine g_if_ne C 16 dX4_decisionCount_11 (by decide) (fun c_9 => ?_) (fun c_9 => ?_)
    · replace hw := hw.2 c_9
      refine g_aload_n C 0 dX4_decisionCount_16 rfl rfl ?_
      refine g_iload_n C 1 dX4_decisionCount_17 rfl rfl ?_
      refine g_callVr C (c_X4_policyNumbered l G hO hwin hw) kX4_policyNumbered tw_341 (Rv.of C (C.win (by decide) (by decide)) rfl (ci := 4) rfl) rfl rfl ⟨Nat.le_of_ble_eq_true rfl, Nat.le_of_ble_eq_true rfl⟩ (As := [.int x1]) (rest := []) rfl rfl (Nat.le_of_ble_eq_true rfl) dX4_decisionCount_18 ⟨Nat.le_of_ble_eq_true rfl, Nat.le_of_ble_eq_true rfl⟩ (fun k_6 s_5 hw => ?_)
      have hk_6 := hw.1
      replace hw := hw.2
      refine g_iload_n C 2 dX4_decisionCount_21 rfl rfl ?_
      refine g_callSi C (c_X4_requestsDecided l G hO hwin hk_6 hw) kX4_requestsDecided tw_497 rfl rfl ⟨Nat.le_of_ble_eq_true rfl, Nat.le_of_ble_eq_true rfl⟩ (As := [.ref (gh G k_6), .int x2]) (rest := []) rfl rfl (Nat.le_of_ble_eq_true rfl) dX4_decisionCount_22 ⟨Nat.le_of_ble_eq_true rfl, Nat.le_of_ble_eq_true rfl⟩ (fun r_8 s_7 hw => ?_)
      exact g_iret C hr hlk hw dX4_decisionCount_25
    · replace hw := hw.1 c_9
      refine g_iconst C (-1 : Int32) dX4_decisionCount_14 (by decide) ?_
      exact g_iret C hr hlk hw dX4_decisionCount_15

set_option maxHeartbeats 4000000 in
set_option maxRecDepth 100000 in
theorem c_X4_applicableRules (l : Launch) (G : Gp) (hO : gOK G) (hwin : ∀ k, 0 ≤ k → k < 17 → k ∈ gks G) {x1 : Int32} {x2 : Int32}  {st : St} {Q : Int32 → St → Prop} (hw : wp_X4_applicableRules x1 x2 st Q) : MI l G yX4_applicableRules cX4_applicableRules 3 (some .int) { frames := 1, cells := 0, slots := 0, locals := 21 } [.ref (gh G 0), .int x1, .int x2] st Q := by
  refine MI.of (own := RX4) (lo := 0) (hi := 17) hO hwin (by decide) rfl (Nat.le_of_ble_eq_true rfl) (fun p e s m args below meth c C hr hlk => ?_)
  refine g_lv (lv' := [(0, .ref (gh G 0)), (1, .int x1), (2, .int x2)]) rfl ?_
  unfold wp_X4_applicableRules at hw
  refine g_iload_n C 1 dX4_applicableRules_0 rfl rfl ?_
  refine g_callSi C (c_X4_isPolicy l G hO hwin hw) kX4_isPolicy tw_335 rfl rfl ⟨Nat.le_of_ble_eq_true rfl, Nat.le_of_ble_eq_true rfl⟩ (As := [.int x1]) (rest := []) rfl rfl (Nat.le_of_ble_eq_true rfl) dX4_applicableRules_1 ⟨Nat.le_of_ble_eq_true rfl, Nat.le_of_ble_eq_true rfl⟩ (fun r_2 s_1 hw => ?_)
  refine g_if_eq C 14 dX4_applicableRules_4 (by decide) (fun c_12 => ?_) (fun c_12 => ?_)
  · replace hw := hw.1 c_12
    refine g_iconst C (-1 : Int32) dX4_applicableRules_14 (by decide) ?_
    exact g_iret C hr hlk hw dX4_applicableRules_15
  · replace hw := hw.2 c_12
    refine g_iload_n C 2 dX4_applicableRules_7 rfl rfl ?_
    refine g_callSi C (c_X4_isRequest l G hO hwin hw) kX4_isRequest tw_463 rfl rfl ⟨Nat.le_of_ble_eq_true rfl, Nat.le_of_ble_eq_true rfl⟩ (As := [.int x2]) (rest := []) rfl rfl (Nat.le_of_ble_eq_true rfl) dX4_applicableRules_8 ⟨Nat.le_of_ble_eq_true rfl, Nat.le_of_ble_eq_true rfl⟩ (fun r_4 s_3 hw => ?_)
    refine g_if_ne C 16 dX4_applicableRules_11 (by decide) (fun c_11 => ?_) (fun c_11 => ?_)
    · replace hw := hw.2 c_11
      refine g_aload_n C 0 dX4_applicableRules_16 rfl rfl ?_
      refine g_iload_n C 1 dX4_applicableRules_17 rfl rfl ?_
      refine g_callVr C (c_X4_policyNumbered l G hO hwin hw) kX4_policyNumbered tw_341 (Rv.of C (C.win (by decide) (by decide)) rfl (ci := 4) rfl) rfl rfl ⟨Nat.le_of_ble_eq_true rfl, Nat.le_of_ble_eq_true rfl⟩ (As := [.int x1]) (rest := []) rfl rfl (Nat.le_of_ble_eq_true rfl) dX4_applicableRules_18 ⟨Nat.le_of_ble_eq_true rfl, Nat.le_of_ble_eq_true rfl⟩ (fun k_6 s_5 hw => ?_)
      have hk_6 := hw.1
      replace hw := hw.2
      refine g_iload_n C 2 dX4_applicableRules_21 rfl rfl ?_
      refine g_callVi C (c_X1_applying l G hO hwin hk_6 hw) kX1_applying tw_504 (Rv.of C (C.pol hk_6) (isPol.cell hk_6 G _) (ci := 1) rfl) rfl rfl ⟨Nat.le_of_ble_eq_true rfl, Nat.le_of_ble_eq_true rfl⟩ (As := [.int x2]) (rest := []) rfl rfl (Nat.le_of_ble_eq_true rfl) dX4_applicableRules_22 ⟨Nat.le_of_ble_eq_true rfl, Nat.le_of_ble_eq_true rfl⟩ (fun r_8 s_7 hw => ?_)
      refine g_callSi C (c_J6_bitCount_0f7a4 l G hO hwin hw) kJ6_bitCount_0f7a4 tw_505 rfl rfl ⟨Nat.le_of_ble_eq_true rfl, Nat.le_of_ble_eq_true rfl⟩ (As := [.int r_8]) (rest := []) rfl rfl (Nat.le_of_ble_eq_true rfl) dX4_applicableRules_25 ⟨Nat.le_of_ble_eq_true rfl, Nat.le_of_ble_eq_true rfl⟩ (fun r_10 s_9 hw => ?_)
      exact g_iret C hr hlk hw dX4_applicableRules_28
    · replace hw := hw.1 c_11
      refine g_iconst C (-1 : Int32) dX4_applicableRules_14 (by decide) ?_
      exact g_iret C hr hlk hw dX4_applicableRules_15

set_option maxHeartbeats 4000000 in
set_option maxRecDepth 100000 in
theorem c_X4_gainCount (l : Launch) (G : Gp) (hO : gOK G) (hwin : ∀ k, 0 ≤ k → k < 17 → k ∈ gks G)   {st : St} {Q : Int32 → St → Prop} (hw : wp_X4_gainCount  st Q) : MI l G yX4_gainCount cX4_gainCount 1 (some .int) { frames := 5, cells := 0, slots := 0, locals := 109 } [.ref (gh G 0)] st Q := by
  refine MI.of (own := RX4) (lo := 0) (hi := 17) hO hwin (by decide) rfl (Nat.le_of_ble_eq_true rfl) (fun p e s m args below meth c C hr hlk => ?_)
  refine g_lv (lv' := [(0, .ref (gh G 0))]) rfl ?_
  unfold wp_X4_gainCount at hw
  refine g_aload_n C 0 dX4_gainCount_0 rfl rfl ?_
  refine g_get C inX4 (C.win (by decide) (by decide)) rfl rfl 1 (by decide) tw_290 rfl dX4_gainCount_1 ?_
  refine g_aload_n C 0 dX4_gainCount_4 rfl rfl ?_
  refine g_get C inX4 (C.win (by decide) (by decide)) rfl rfl 0 (by decide) tw_289 rfl dX4_gainCount_5 ?_
  refine g_callSi C (c_X4_countGranted l G hO hwin (Or.inr (Or.inl rfl)) (Or.inl rfl) hw) kX4_countGranted tw_510 rfl rfl ⟨Nat.le_of_ble_eq_true rfl, Nat.le_of_ble_eq_true rfl⟩ (As := [.ref (gh G 3), .ref (gh G 1)]) (rest := []) rfl rfl (Nat.le_of_ble_eq_true rfl) dX4_gainCount_8 ⟨Nat.le_of_ble_eq_true rfl, Nat.le_of_ble_eq_true rfl⟩ (fun r_2 s_1 hw => ?_)
  exact g_iret C hr hlk hw dX4_gainCount_11

set_option maxHeartbeats 4000000 in
set_option maxRecDepth 100000 in
theorem c_X4_lossCount (l : Launch) (G : Gp) (hO : gOK G) (hwin : ∀ k, 0 ≤ k → k < 17 → k ∈ gks G)   {st : St} {Q : Int32 → St → Prop} (hw : wp_X4_lossCount  st Q) : MI l G yX4_lossCount cX4_lossCount 1 (some .int) { frames := 5, cells := 0, slots := 0, locals := 109 } [.ref (gh G 0)] st Q := by
  refine MI.of (own := RX4) (lo := 0) (hi := 17) hO hwin (by decide) rfl (Nat.le_of_ble_eq_true rfl) (fun p e s m args below meth c C hr hlk => ?_)
  refine g_lv (lv' := [(0, .ref (gh G 0))]) rfl ?_
  unfold wp_X4_lossCount at hw
  refine g_aload_n C 0 dX4_lossCount_0 rfl rfl ?_
  refine g_get C inX4 (C.win (by decide) (by decide)) rfl rfl 0 (by decide) tw_289 rfl dX4_lossCount_1 ?_
  refine g_aload_n C 0 dX4_lossCount_4 rfl rfl ?_
  refine g_get C inX4 (C.win (by decide) (by decide)) rfl rfl 1 (by decide) tw_290 rfl dX4_lossCount_5 ?_
  refine g_callSi C (c_X4_countGranted l G hO hwin (Or.inl rfl) (Or.inr (Or.inl rfl)) hw) kX4_countGranted tw_510 rfl rfl ⟨Nat.le_of_ble_eq_true rfl, Nat.le_of_ble_eq_true rfl⟩ (As := [.ref (gh G 1), .ref (gh G 3)]) (rest := []) rfl rfl (Nat.le_of_ble_eq_true rfl) dX4_lossCount_8 ⟨Nat.le_of_ble_eq_true rfl, Nat.le_of_ble_eq_true rfl⟩ (fun r_2 s_1 hw => ?_)
  exact g_iret C hr hlk hw dX4_lossCount_11

set_option maxHeartbeats 4000000 in
set_option maxRecDepth 100000 in
theorem c_X4_gainCountOf (l : Launch) (G : Gp) (hO : gOK G) (hwin : ∀ k, 0 ≤ k → k < 17 → k ∈ gks G) {x1 : Int32} {x2 : Int32}  {st : St} {Q : Int32 → St → Prop} (hw : wp_X4_gainCountOf x1 x2 st Q) : MI l G yX4_gainCountOf cX4_gainCountOf 5 (some .int) { frames := 4, cells := 0, slots := 0, locals := 86 } [.ref (gh G 0), .int x1, .int x2] st Q := by
  refine MI.of (own := RX4) (lo := 0) (hi := 17) hO hwin (by decide) rfl (Nat.le_of_ble_eq_true rfl) (fun p e s m args below meth c C hr hlk => ?_)
  refine g_lv (lv' := [(0, .ref (gh G 0)), (1, .int x1), (2, .int x2)]) rfl ?_
  unfold wp_X4_gainCountOf at hw
  obtain ⟨P27, hP27⟩ : ∃ P : Int32 → Int32 → St → Prop, P = fun x3 x4 st => WG p l e ({ frames := 4, cells := 0, slots := 0, locals := 86 } : Room) s m args below meth c 0 0 (MQ below (va_Qi Q (gB G) (gA G)) args s 0 0 (gA G)) G 5 27 [(0, .ref (gh G 0)), (1, .int x1), (2, .int x2), (3, .int x3), (4, .int x4)] [] st := ⟨_, rfl⟩
  replace hw := hw P27
  replace hw := hw (by
    intro x3 x4 st hw
    rw [hP27]
    refine g_iload C 4 dX4_gainCountOf_27 rfl ?_
    refine g_sipush C (1024 : Int32) dX4_gainCountOf_29 (by decide) ?_
    refine g_icmp_ge C 70 dX4_gainCountOf_32 (by decide) (fun c_11 => ?_) (fun c_11 => ?_)
    · replace hw := hw.1 c_11
      refine g_iload_n C 3 dX4_gainCountOf_70 rfl rfl ?_
      exact g_iret C hr hlk hw dX4_gainCountOf_71
    · replace hw := hw.2 c_11
      refine g_iload C 4 dX4_gainCountOf_35 rfl ?_
      refine g_iload_n C 1 dX4_gainCountOf_37 rfl rfl ?_
      refine g_callSi C (c_X4_valueIn l G hO hwin hw) kX4_valueIn tw_524 rfl rfl ⟨Nat.le_of_ble_eq_true rfl, Nat.le_of_ble_eq_true rfl⟩ (As := [.int x4, .int x1]) (rest := []) rfl rfl (Nat.le_of_ble_eq_true rfl) dX4_gainCountOf_38 ⟨Nat.le_of_ble_eq_true rfl, Nat.le_of_ble_eq_true rfl⟩ (fun r_2 s_1 hw => ?_)
      refine g_iload_n C 2 dX4_gainCountOf_41 rfl rfl ?_
      refine g_icmp_ne C 64 dX4_gainCountOf_42 (by decide) (fun c_10 => ?_) (fun c_10 => ?_)
      · replace hw := hw.2 c_10
        obtain ⟨x4_3, ex4_3⟩ : ∃ z : Int32, z = x4 + (1 : Int32) := ⟨_, rfl⟩
        replace hw := hw x4_3 ex4_3
        refine g_iinc C x4_3 4 dX4_gainCountOf_64 rfl ex4_3.symm (by decide) (lv' := [(4, .int x4_3), (0, .ref (gh G 0)), (1, .int x1), (2, .int x2), (3, .int x3)]) rfl ?_
        refine g_goto C 27 dX4_gainCountOf_67 (by decide) ?_
        rw [hP27] at hw
        exact g_perm [1, 2, 3, 4, 0] rfl (hw)
      · replace hw := hw.1 c_10
        refine g_aload_n C 0 dX4_gainCountOf_45 rfl rfl ?_
        refine g_get C inX4 (C.win (by decide) (by decide)) rfl rfl 1 (by decide) tw_290 rfl dX4_gainCountOf_46 ?_
        refine g_aload_n C 0 dX4_gainCountOf_49 rfl rfl ?_
        refine g_get C inX4 (C.win (by decide) (by decide)) rfl rfl 0 (by decide) tw_289 rfl dX4_gainCountOf_50 ?_
        refine g_iload C 4 dX4_gainCountOf_53 rfl ?_
        refine g_callSi C (c_X4_isGrantedOnlyBy l G hO hwin (Or.inr (Or.inl rfl)) (Or.inl rfl) hw) kX4_isGrantedOnlyBy tw_513 rfl rfl ⟨Nat.le_of_ble_eq_true rfl, Nat.le_of_ble_eq_true rfl⟩ (As := [.ref (gh G 3), .ref (gh G 1), .int x4]) (rest := []) rfl rfl (Nat.le_of_ble_eq_true rfl) dX4_gainCountOf_55 ⟨Nat.le_of_ble_eq_true rfl, Nat.le_of_ble_eq_true rfl⟩ (fun r_5 s_4 hw => ?_)
        refine g_if_eq C 64 dX4_gainCountOf_58 (by decide) (fun c_9 => ?_) (fun c_9 => ?_)
        · replace hw := hw.1 c_9
          obtain ⟨x4_6, ex4_6⟩ : ∃ z : Int32, z = x4 + (1 : Int32) := ⟨_, rfl⟩
          replace hw := hw x4_6 ex4_6
          refine g_iinc C x4_6 4 dX4_gainCountOf_64 rfl ex4_6.symm (by decide) (lv' := [(4, .int x4_6), (0, .ref (gh G 0)), (1, .int x1), (2, .int x2), (3, .int x3)]) rfl ?_
          refine g_goto C 27 dX4_gainCountOf_67 (by decide) ?_
          rw [hP27] at hw
          exact g_perm [1, 2, 3, 4, 0] rfl (hw)
        · replace hw := hw.2 c_9
          obtain ⟨x3_7, ex3_7⟩ : ∃ z : Int32, z = x3 + (1 : Int32) := ⟨_, rfl⟩
          replace hw := hw x3_7 ex3_7
          refine g_iinc C x3_7 3 dX4_gainCountOf_61 rfl ex3_7.symm (by decide) (lv' := [(3, .int x3_7), (0, .ref (gh G 0)), (1, .int x1), (2, .int x2), (4, .int x4)]) rfl ?_
          obtain ⟨x4_8, ex4_8⟩ : ∃ z : Int32, z = x4 + (1 : Int32) := ⟨_, rfl⟩
          replace hw := hw x4_8 ex4_8
          refine g_iinc C x4_8 4 dX4_gainCountOf_64 rfl ex4_8.symm (by decide) (lv' := [(4, .int x4_8), (3, .int x3_7), (0, .ref (gh G 0)), (1, .int x1), (2, .int x2)]) rfl ?_
          refine g_goto C 27 dX4_gainCountOf_67 (by decide) ?_
          rw [hP27] at hw
          exact g_perm [2, 3, 4, 1, 0] rfl (hw))
  refine g_iload_n C 1 dX4_gainCountOf_0 rfl rfl ?_
  refine g_callSi C (c_X4_isAttribute l G hO hwin hw) kX4_isAttribute tw_399 rfl rfl ⟨Nat.le_of_ble_eq_true rfl, Nat.le_of_ble_eq_true rfl⟩ (As := [.int x1]) (rest := []) rfl rfl (Nat.le_of_ble_eq_true rfl) dX4_gainCountOf_1 ⟨Nat.le_of_ble_eq_true rfl, Nat.le_of_ble_eq_true rfl⟩ (fun r_13 s_12 hw => ?_)
  refine g_if_eq C 20 dX4_gainCountOf_4 (by decide) (fun c_16 => ?_) (fun c_16 => ?_)
  · replace hw := hw.1 c_16
    refine g_iconst C (-1 : Int32) dX4_gainCountOf_20 (by decide) ?_
    exact g_iret C hr hlk hw dX4_gainCountOf_21
  · replace hw := hw.2 c_16
    refine g_iload_n C 2 dX4_gainCountOf_7 rfl rfl ?_
    refine g_if_lt C 20 dX4_gainCountOf_8 (by decide) (fun c_15 => ?_) (fun c_15 => ?_)
    · replace hw := hw.1 c_15
      refine g_iconst C (-1 : Int32) dX4_gainCountOf_20 (by decide) ?_
      exact g_iret C hr hlk hw dX4_gainCountOf_21
    · replace hw := hw.2 c_15
      refine g_iload_n C 2 dX4_gainCountOf_11 rfl rfl ?_
      refine g_gets C (fun h => h.1.1) tw_405 dX4_gainCountOf_12 ?_
      refine g_iload_n C 1 dX4_gainCountOf_15 rfl rfl ?_
      refine g_ti C (fun h => h.1.2) hw.1 dX4_gainCountOf_16 ?_
      replace hw := hw.2
      refine g_icmp_lt C 22 dX4_gainCountOf_17 (by decide) (fun c_14 => ?_) (fun c_14 => ?_)
      · replace hw := hw.1 c_14
        refine g_iconst C (0 : Int32) dX4_gainCountOf_22 (by decide) ?_
        refine g_istore_n C dX4_gainCountOf_23 rfl (by decide) (lv' := [(3, .int (0 : Int32)), (0, .ref (gh G 0)), (1, .int x1), (2, .int x2)]) rfl ?_
        refine g_iconst C (0 : Int32) dX4_gainCountOf_24 (by decide) ?_
        refine g_istore C dX4_gainCountOf_25 (by decide) (lv' := [(4, .int (0 : Int32)), (3, .int (0 : Int32)), (0, .ref (gh G 0)), (1, .int x1), (2, .int x2)]) rfl ?_
        rw [hP27] at hw
        exact g_perm [2, 3, 4, 1, 0] rfl (hw)
      · replace hw := hw.2 c_14
        refine g_iconst C (-1 : Int32) dX4_gainCountOf_20 (by decide) ?_
        exact g_iret C hr hlk hw dX4_gainCountOf_21

set_option maxHeartbeats 4000000 in
set_option maxRecDepth 100000 in
theorem c_X4_nextGain (l : Launch) (G : Gp) (hO : gOK G) (hwin : ∀ k, 0 ≤ k → k < 17 → k ∈ gks G) {x1 : Int32}  {st : St} {Q : Int32 → St → Prop} (hw : wp_X4_nextGain x1 st Q) : MI l G yX4_nextGain cX4_nextGain 2 (some .int) { frames := 5, cells := 0, slots := 0, locals := 109 } [.ref (gh G 0), .int x1] st Q := by
  refine MI.of (own := RX4) (lo := 0) (hi := 17) hO hwin (by decide) rfl (Nat.le_of_ble_eq_true rfl) (fun p e s m args below meth c C hr hlk => ?_)
  refine g_lv (lv' := [(0, .ref (gh G 0)), (1, .int x1)]) rfl ?_
  unfold wp_X4_nextGain at hw
  refine g_iload_n C 1 dX4_nextGain_0 rfl rfl ?_
  refine g_callSi C (c_X4_isRequest l G hO hwin hw) kX4_isRequest tw_463 rfl rfl ⟨Nat.le_of_ble_eq_true rfl, Nat.le_of_ble_eq_true rfl⟩ (As := [.int x1]) (rest := []) rfl rfl (Nat.le_of_ble_eq_true rfl) dX4_nextGain_1 ⟨Nat.le_of_ble_eq_true rfl, Nat.le_of_ble_eq_true rfl⟩ (fun r_2 s_1 hw => ?_)
  refine g_if_eq C 22 dX4_nextGain_4 (by decide) (fun c_5 => ?_) (fun c_5 => ?_)
  · replace hw := hw.1 c_5
    refine g_iconst C (-1 : Int32) dX4_nextGain_22 (by decide) ?_
    exact g_iret C hr hlk hw dX4_nextGain_23
  · replace hw := hw.2 c_5
    refine g_aload_n C 0 dX4_nextGain_7 rfl rfl ?_
    refine g_get C inX4 (C.win (by decide) (by decide)) rfl rfl 1 (by decide) tw_290 rfl dX4_nextGain_8 ?_
    refine g_aload_n C 0 dX4_nextGain_11 rfl rfl ?_
    refine g_get C inX4 (C.win (by decide) (by decide)) rfl rfl 0 (by decide) tw_289 rfl dX4_nextGain_12 ?_
    refine g_iload_n C 1 dX4_nextGain_15 rfl rfl ?_
    refine g_callSi C (c_X4_nextGranted l G hO hwin (Or.inr (Or.inl rfl)) (Or.inl rfl) hw) kX4_nextGranted tw_533 rfl rfl ⟨Nat.le_of_ble_eq_true rfl, Nat.le_of_ble_eq_true rfl⟩ (As := [.ref (gh G 3), .ref (gh G 1), .int x1]) (rest := []) rfl rfl (Nat.le_of_ble_eq_true rfl) dX4_nextGain_16 ⟨Nat.le_of_ble_eq_true rfl, Nat.le_of_ble_eq_true rfl⟩ (fun r_4 s_3 hw => ?_)
    refine g_goto C 23 dX4_nextGain_19 (by decide) ?_
    exact g_iret C hr hlk hw dX4_nextGain_23

set_option maxHeartbeats 4000000 in
set_option maxRecDepth 100000 in
theorem c_X4_nextLoss (l : Launch) (G : Gp) (hO : gOK G) (hwin : ∀ k, 0 ≤ k → k < 17 → k ∈ gks G) {x1 : Int32}  {st : St} {Q : Int32 → St → Prop} (hw : wp_X4_nextLoss x1 st Q) : MI l G yX4_nextLoss cX4_nextLoss 2 (some .int) { frames := 5, cells := 0, slots := 0, locals := 109 } [.ref (gh G 0), .int x1] st Q := by
  refine MI.of (own := RX4) (lo := 0) (hi := 17) hO hwin (by decide) rfl (Nat.le_of_ble_eq_true rfl) (fun p e s m args below meth c C hr hlk => ?_)
  refine g_lv (lv' := [(0, .ref (gh G 0)), (1, .int x1)]) rfl ?_
  unfold wp_X4_nextLoss at hw
  refine g_iload_n C 1 dX4_nextLoss_0 rfl rfl ?_
  refine g_callSi C (c_X4_isRequest l G hO hwin hw) kX4_isRequest tw_463 rfl rfl ⟨Nat.le_of_ble_eq_true rfl, Nat.le_of_ble_eq_true rfl⟩ (As := [.int x1]) (rest := []) rfl rfl (Nat.le_of_ble_eq_true rfl) dX4_nextLoss_1 ⟨Nat.le_of_ble_eq_true rfl, Nat.le_of_ble_eq_true rfl⟩ (fun r_2 s_1 hw => ?_)
  refine g_if_eq C 22 dX4_nextLoss_4 (by decide) (fun c_5 => ?_) (fun c_5 => ?_)
  · replace hw := hw.1 c_5
    refine g_iconst C (-1 : Int32) dX4_nextLoss_22 (by decide) ?_
    exact g_iret C hr hlk hw dX4_nextLoss_23
  · replace hw := hw.2 c_5
    refine g_aload_n C 0 dX4_nextLoss_7 rfl rfl ?_
    refine g_get C inX4 (C.win (by decide) (by decide)) rfl rfl 0 (by decide) tw_289 rfl dX4_nextLoss_8 ?_
    refine g_aload_n C 0 dX4_nextLoss_11 rfl rfl ?_
    refine g_get C inX4 (C.win (by decide) (by decide)) rfl rfl 1 (by decide) tw_290 rfl dX4_nextLoss_12 ?_
    refine g_iload_n C 1 dX4_nextLoss_15 rfl rfl ?_
    refine g_callSi C (c_X4_nextGranted l G hO hwin (Or.inl rfl) (Or.inr (Or.inl rfl)) hw) kX4_nextGranted tw_533 rfl rfl ⟨Nat.le_of_ble_eq_true rfl, Nat.le_of_ble_eq_true rfl⟩ (As := [.ref (gh G 1), .ref (gh G 3), .int x1]) (rest := []) rfl rfl (Nat.le_of_ble_eq_true rfl) dX4_nextLoss_16 ⟨Nat.le_of_ble_eq_true rfl, Nat.le_of_ble_eq_true rfl⟩ (fun r_4 s_3 hw => ?_)
    refine g_goto C 23 dX4_nextLoss_19 (by decide) ?_
    exact g_iret C hr hlk hw dX4_nextLoss_23

set_option maxHeartbeats 4000000 in
set_option maxRecDepth 100000 in
theorem c_X4_transitionCount (l : Launch) (G : Gp) (hO : gOK G) (hwin : ∀ k, 0 ≤ k → k < 17 → k ∈ gks G) {x1 : Int32} {x2 : Int32}  {st : St} {Q : Int32 → St → Prop} (hw : wp_X4_transitionCount x1 x2 st Q) : MI l G yX4_transitionCount cX4_transitionCount 5 (some .int) { frames := 3, cells := 0, slots := 0, locals := 64 } [.ref (gh G 0), .int x1, .int x2] st Q := by
  refine MI.of (own := RX4) (lo := 0) (hi := 17) hO hwin (by decide) rfl (Nat.le_of_ble_eq_true rfl) (fun p e s m args below meth c C hr hlk => ?_)
  refine g_lv (lv' := [(0, .ref (gh G 0)), (1, .int x1), (2, .int x2)]) rfl ?_
  unfold wp_X4_transitionCount at hw
  obtain ⟨P21, hP21⟩ : ∃ P : Int32 → Int32 → St → Prop, P = fun x3 x4 st => WG p l e ({ frames := 3, cells := 0, slots := 0, locals := 64 } : Room) s m args below meth c 0 0 (MQ below (va_Qi Q (gB G) (gA G)) args s 0 0 (gA G)) G 5 21 [(0, .ref (gh G 0)), (1, .int x1), (2, .int x2), (3, .int x3), (4, .int x4)] [] st := ⟨_, rfl⟩
  replace hw := hw P21
  replace hw := hw (by
    intro x3 x4 st hw
    rw [hP21]
    refine g_iload C 4 dX4_transitionCount_21 rfl ?_
    refine g_sipush C (1024 : Int32) dX4_transitionCount_23 (by decide) ?_
    refine g_icmp_ge C 64 dX4_transitionCount_26 (by decide) (fun c_11 => ?_) (fun c_11 => ?_)
    · replace hw := hw.1 c_11
      refine g_iload_n C 3 dX4_transitionCount_64 rfl rfl ?_
      exact g_iret C hr hlk hw dX4_transitionCount_65
    · replace hw := hw.2 c_11
      refine g_aload_n C 0 dX4_transitionCount_29 rfl rfl ?_
      refine g_get C inX4 (C.win (by decide) (by decide)) rfl rfl 0 (by decide) tw_289 rfl dX4_transitionCount_30 ?_
      refine g_iload C 4 dX4_transitionCount_33 rfl ?_
      refine g_callVi C (c_X1_decisionOn l G hO hwin (Or.inl rfl) hw) kX1_decisionOn tw_466 (Rv.of C (C.pol (Or.inl rfl)) (isPol.cell (Or.inl rfl) G _) (ci := 1) rfl) rfl rfl ⟨Nat.le_of_ble_eq_true rfl, Nat.le_of_ble_eq_true rfl⟩ (As := [.int x4]) (rest := []) rfl rfl (Nat.le_of_ble_eq_true rfl) dX4_transitionCount_35 ⟨Nat.le_of_ble_eq_true rfl, Nat.le_of_ble_eq_true rfl⟩ (fun r_2 s_1 hw => ?_)
      refine g_iload_n C 1 dX4_transitionCount_38 rfl rfl ?_
      refine g_icmp_ne C 58 dX4_transitionCount_39 (by decide) (fun c_10 => ?_) (fun c_10 => ?_)
      · replace hw := hw.2 c_10
        obtain ⟨x4_3, ex4_3⟩ : ∃ z : Int32, z = x4 + (1 : Int32) := ⟨_, rfl⟩
        replace hw := hw x4_3 ex4_3
        refine g_iinc C x4_3 4 dX4_transitionCount_58 rfl ex4_3.symm (by decide) (lv' := [(4, .int x4_3), (0, .ref (gh G 0)), (1, .int x1), (2, .int x2), (3, .int x3)]) rfl ?_
        refine g_goto C 21 dX4_transitionCount_61 (by decide) ?_
        rw [hP21] at hw
        exact g_perm [1, 2, 3, 4, 0] rfl (hw)
      · replace hw := hw.1 c_10
        refine g_aload_n C 0 dX4_transitionCount_42 rfl rfl ?_
        refine g_get C inX4 (C.win (by decide) (by decide)) rfl rfl 1 (by decide) tw_290 rfl dX4_transitionCount_43 ?_
        refine g_iload C 4 dX4_transitionCount_46 rfl ?_
        refine g_callVi C (c_X1_decisionOn l G hO hwin (Or.inr (Or.inl rfl)) hw) kX1_decisionOn tw_466 (Rv.of C (C.pol (Or.inr (Or.inl rfl))) (isPol.cell (Or.inr (Or.inl rfl)) G _) (ci := 1) rfl) rfl rfl ⟨Nat.le_of_ble_eq_true rfl, Nat.le_of_ble_eq_true rfl⟩ (As := [.int x4]) (rest := []) rfl rfl (Nat.le_of_ble_eq_true rfl) dX4_transitionCount_48 ⟨Nat.le_of_ble_eq_true rfl, Nat.le_of_ble_eq_true rfl⟩ (fun r_5 s_4 hw => ?_)
        refine g_iload_n C 2 dX4_transitionCount_51 rfl rfl ?_
        refine g_icmp_ne C 58 dX4_transitionCount_52 (by decide) (fun c_9 => ?_) (fun c_9 => ?_)
        · replace hw := hw.2 c_9
          obtain ⟨x4_6, ex4_6⟩ : ∃ z : Int32, z = x4 + (1 : Int32) := ⟨_, rfl⟩
          replace hw := hw x4_6 ex4_6
          refine g_iinc C x4_6 4 dX4_transitionCount_58 rfl ex4_6.symm (by decide) (lv' := [(4, .int x4_6), (0, .ref (gh G 0)), (1, .int x1), (2, .int x2), (3, .int x3)]) rfl ?_
          refine g_goto C 21 dX4_transitionCount_61 (by decide) ?_
          rw [hP21] at hw
          exact g_perm [1, 2, 3, 4, 0] rfl (hw)
        · replace hw := hw.1 c_9
          obtain ⟨x3_7, ex3_7⟩ : ∃ z : Int32, z = x3 + (1 : Int32) := ⟨_, rfl⟩
          replace hw := hw x3_7 ex3_7
          refine g_iinc C x3_7 3 dX4_transitionCount_55 rfl ex3_7.symm (by decide) (lv' := [(3, .int x3_7), (0, .ref (gh G 0)), (1, .int x1), (2, .int x2), (4, .int x4)]) rfl ?_
          obtain ⟨x4_8, ex4_8⟩ : ∃ z : Int32, z = x4 + (1 : Int32) := ⟨_, rfl⟩
          replace hw := hw x4_8 ex4_8
          refine g_iinc C x4_8 4 dX4_transitionCount_58 rfl ex4_8.symm (by decide) (lv' := [(4, .int x4_8), (3, .int x3_7), (0, .ref (gh G 0)), (1, .int x1), (2, .int x2)]) rfl ?_
          refine g_goto C 21 dX4_transitionCount_61 (by decide) ?_
          rw [hP21] at hw
          exact g_perm [2, 3, 4, 1, 0] rfl (hw))
  refine g_iload_n C 1 dX4_transitionCount_0 rfl rfl ?_
  refine g_callSi C (c_X4_isDecision l G hO hwin hw) kX4_isDecision tw_494 rfl rfl ⟨Nat.le_of_ble_eq_true rfl, Nat.le_of_ble_eq_true rfl⟩ (As := [.int x1]) (rest := []) rfl rfl (Nat.le_of_ble_eq_true rfl) dX4_transitionCount_1 ⟨Nat.le_of_ble_eq_true rfl, Nat.le_of_ble_eq_true rfl⟩ (fun r_13 s_12 hw => ?_)
  refine g_if_eq C 14 dX4_transitionCount_4 (by decide) (fun c_17 => ?_) (fun c_17 => ?_)
  · replace hw := hw.1 c_17
    refine g_iconst C (-1 : Int32) dX4_transitionCount_14 (by decide) ?_
    exact g_iret C hr hlk hw dX4_transitionCount_15
  · replace hw := hw.2 c_17
    refine g_iload_n C 2 dX4_transitionCount_7 rfl rfl ?_
    refine g_callSi C (c_X4_isDecision l G hO hwin hw) kX4_isDecision tw_494 rfl rfl ⟨Nat.le_of_ble_eq_true rfl, Nat.le_of_ble_eq_true rfl⟩ (As := [.int x2]) (rest := []) rfl rfl (Nat.le_of_ble_eq_true rfl) dX4_transitionCount_8 ⟨Nat.le_of_ble_eq_true rfl, Nat.le_of_ble_eq_true rfl⟩ (fun r_15 s_14 hw => ?_)
    refine g_if_ne C 16 dX4_transitionCount_11 (by decide) (fun c_16 => ?_) (fun c_16 => ?_)
    · replace hw := hw.2 c_16
      refine g_iconst C (0 : Int32) dX4_transitionCount_16 (by decide) ?_
      refine g_istore_n C dX4_transitionCount_17 rfl (by decide) (lv' := [(3, .int (0 : Int32)), (0, .ref (gh G 0)), (1, .int x1), (2, .int x2)]) rfl ?_
      refine g_iconst C (0 : Int32) dX4_transitionCount_18 (by decide) ?_
      refine g_istore C dX4_transitionCount_19 (by decide) (lv' := [(4, .int (0 : Int32)), (3, .int (0 : Int32)), (0, .ref (gh G 0)), (1, .int x1), (2, .int x2)]) rfl ?_
      rw [hP21] at hw
      exact g_perm [2, 3, 4, 1, 0] rfl (hw)
    · replace hw := hw.1 c_16
      refine g_iconst C (-1 : Int32) dX4_transitionCount_14 (by decide) ?_
      exact g_iret C hr hlk hw dX4_transitionCount_15

set_option maxHeartbeats 4000000 in
set_option maxRecDepth 100000 in
theorem c_X4_grantedShareBits (l : Launch) (G : Gp) (hO : gOK G) (hwin : ∀ k, 0 ≤ k → k < 17 → k ∈ gks G) {x1 : Int32}  {st : St} {Q : Int32 → St → Prop} (hw : wp_X4_grantedShareBits x1 st Q) : MI l G yX4_grantedShareBits cX4_grantedShareBits 2 (some .int) { frames := 4, cells := 0, slots := 0, locals := 87 } [.ref (gh G 0), .int x1] st Q := by
  refine MI.of (own := RX4) (lo := 0) (hi := 17) hO hwin (by decide) rfl (Nat.le_of_ble_eq_true rfl) (fun p e s m args below meth c C hr hlk => ?_)
  refine g_lv (lv' := [(0, .ref (gh G 0)), (1, .int x1)]) rfl ?_
  unfold wp_X4_grantedShareBits at hw
  refine g_iload_n C 1 dX4_grantedShareBits_0 rfl rfl ?_
  refine g_callSi C (c_X4_isPolicy l G hO hwin hw) kX4_isPolicy tw_335 rfl rfl ⟨Nat.le_of_ble_eq_true rfl, Nat.le_of_ble_eq_true rfl⟩ (As := [.int x1]) (rest := []) rfl rfl (Nat.le_of_ble_eq_true rfl) dX4_grantedShareBits_1 ⟨Nat.le_of_ble_eq_true rfl, Nat.le_of_ble_eq_true rfl⟩ (fun r_2 s_1 hw => ?_)
  refine g_if_ne C 9 dX4_grantedShareBits_4 (by decide) (fun c_9 => ?_) (fun c_9 => ?_)
  · replace hw := hw.2 c_9
    refine g_aload_n C 0 dX4_grantedShareBits_9 rfl rfl ?_
    refine g_iload_n C 1 dX4_grantedShareBits_10 rfl rfl ?_
    refine g_callVr C (c_X4_policyNumbered l G hO hwin hw) kX4_policyNumbered tw_341 (Rv.of C (C.win (by decide) (by decide)) rfl (ci := 4) rfl) rfl rfl ⟨Nat.le_of_ble_eq_true rfl, Nat.le_of_ble_eq_true rfl⟩ (As := [.int x1]) (rest := []) rfl rfl (Nat.le_of_ble_eq_true rfl) dX4_grantedShareBits_11 ⟨Nat.le_of_ble_eq_true rfl, Nat.le_of_ble_eq_true rfl⟩ (fun k_4 s_3 hw => ?_)
    have hk_4 := hw.1
    replace hw := hw.2
    refine g_iconst C (0 : Int32) dX4_grantedShareBits_14 (by decide) ?_
    refine g_callSi C (c_X4_requestsDecided l G hO hwin hk_4 hw) kX4_requestsDecided tw_497 rfl rfl ⟨Nat.le_of_ble_eq_true rfl, Nat.le_of_ble_eq_true rfl⟩ (As := [.ref (gh G k_4), .int (0 : Int32)]) (rest := []) rfl rfl (Nat.le_of_ble_eq_true rfl) dX4_grantedShareBits_15 ⟨Nat.le_of_ble_eq_true rfl, Nat.le_of_ble_eq_true rfl⟩ (fun r_6 s_5 hw => ?_)
    refine g_callSi C (c_X4_shareBits l G hO hwin hw) kX4_shareBits tw_548 rfl rfl ⟨Nat.le_of_ble_eq_true rfl, Nat.le_of_ble_eq_true rfl⟩ (As := [.int r_6]) (rest := []) rfl rfl (Nat.le_of_ble_eq_true rfl) dX4_grantedShareBits_18 ⟨Nat.le_of_ble_eq_true rfl, Nat.le_of_ble_eq_true rfl⟩ (fun r_8 s_7 hw => ?_)
    exact g_iret C hr hlk hw dX4_grantedShareBits_21
  · replace hw := hw.1 c_9
    refine g_iconst C (-1 : Int32) dX4_grantedShareBits_7 (by decide) ?_
    exact g_iret C hr hlk hw dX4_grantedShareBits_8

set_option maxHeartbeats 4000000 in
set_option maxRecDepth 100000 in
theorem c_X4_isRedundant (l : Launch) (G : Gp) (hO : gOK G) (hwin : ∀ k, 0 ≤ k → k < 17 → k ∈ gks G) {x1 : Int32} {x2 : Int32}  {st : St} {Q : Int32 → St → Prop} (hw : wp_X4_isRedundant x1 x2 st Q) : MI l G yX4_isRedundant cX4_isRedundant 3 (some .int) { frames := 3, cells := 0, slots := 0, locals := 67 } [.ref (gh G 0), .int x1, .int x2] st Q := by
  refine MI.of (own := RX4) (lo := 0) (hi := 17) hO hwin (by decide) rfl (Nat.le_of_ble_eq_true rfl) (fun p e s m args below meth c C hr hlk => ?_)
  refine g_lv (lv' := [(0, .ref (gh G 0)), (1, .int x1), (2, .int x2)]) rfl ?_
  unfold wp_X4_isRedundant at hw
  refine g_aload_n C 0 dX4_isRedundant_0 rfl rfl ?_
  refine g_iload_n C 1 dX4_isRedundant_1 rfl rfl ?_
  refine g_iload_n C 2 dX4_isRedundant_2 rfl rfl ?_
  refine g_callVi C (c_X4_isRule l G hO hwin hw) kX4_isRule tw_363 (Rv.of C (C.win (by decide) (by decide)) rfl (ci := 4) rfl) rfl rfl ⟨Nat.le_of_ble_eq_true rfl, Nat.le_of_ble_eq_true rfl⟩ (As := [.int x1, .int x2]) (rest := []) rfl rfl (Nat.le_of_ble_eq_true rfl) dX4_isRedundant_3 ⟨Nat.le_of_ble_eq_true rfl, Nat.le_of_ble_eq_true rfl⟩ (fun r_2 s_1 hw => ?_)
  refine g_if_ne C 11 dX4_isRedundant_6 (by decide) (fun c_8 => ?_) (fun c_8 => ?_)
  · replace hw := hw.2 c_8
    refine g_aload_n C 0 dX4_isRedundant_11 rfl rfl ?_
    refine g_iload_n C 1 dX4_isRedundant_12 rfl rfl ?_
    refine g_callVr C (c_X4_policyNumbered l G hO hwin hw) kX4_policyNumbered tw_341 (Rv.of C (C.win (by decide) (by decide)) rfl (ci := 4) rfl) rfl rfl ⟨Nat.le_of_ble_eq_true rfl, Nat.le_of_ble_eq_true rfl⟩ (As := [.int x1]) (rest := []) rfl rfl (Nat.le_of_ble_eq_true rfl) dX4_isRedundant_13 ⟨Nat.le_of_ble_eq_true rfl, Nat.le_of_ble_eq_true rfl⟩ (fun k_4 s_3 hw => ?_)
    have hk_4 := hw.1
    replace hw := hw.2
    refine g_iload_n C 2 dX4_isRedundant_16 rfl rfl ?_
    refine g_callSi C (c_X4_firstChangeWithout l G hO hwin hk_4 hw) kX4_firstChangeWithout tw_560 rfl rfl ⟨Nat.le_of_ble_eq_true rfl, Nat.le_of_ble_eq_true rfl⟩ (As := [.ref (gh G k_4), .int x2]) (rest := []) rfl rfl (Nat.le_of_ble_eq_true rfl) dX4_isRedundant_17 ⟨Nat.le_of_ble_eq_true rfl, Nat.le_of_ble_eq_true rfl⟩ (fun r_6 s_5 hw => ?_)
    refine g_bipush C (-4 : Int32) dX4_isRedundant_20 (by decide) ?_
    refine g_icmp_ne C 29 dX4_isRedundant_22 (by decide) (fun c_7 => ?_) (fun c_7 => ?_)
    · replace hw := hw.2 c_7
      refine g_iconst C (0 : Int32) dX4_isRedundant_29 (by decide) ?_
      exact g_iret C hr hlk hw dX4_isRedundant_30
    · replace hw := hw.1 c_7
      refine g_iconst C (1 : Int32) dX4_isRedundant_25 (by decide) ?_
      refine g_goto C 30 dX4_isRedundant_26 (by decide) ?_
      exact g_iret C hr hlk hw dX4_isRedundant_30
  · replace hw := hw.1 c_8
    refine g_iconst C (-1 : Int32) dX4_isRedundant_9 (by decide) ?_
    exact g_iret C hr hlk hw dX4_isRedundant_10

set_option maxHeartbeats 4000000 in
set_option maxRecDepth 100000 in
theorem c_X4_witness (l : Launch) (G : Gp) (hO : gOK G) (hwin : ∀ k, 0 ≤ k → k < 17 → k ∈ gks G) {x1 : Int32} {x2 : Int32}  {st : St} {Q : Int32 → St → Prop} (hw : wp_X4_witness x1 x2 st Q) : MI l G yX4_witness cX4_witness 3 (some .int) { frames := 3, cells := 0, slots := 0, locals := 67 } [.ref (gh G 0), .int x1, .int x2] st Q := by
  refine MI.of (own := RX4) (lo := 0) (hi := 17) hO hwin (by decide) rfl (Nat.le_of_ble_eq_true rfl) (fun p e s m args below meth c C hr hlk => ?_)
  refine g_lv (lv' := [(0, .ref (gh G 0)), (1, .int x1), (2, .int x2)]) rfl ?_
  unfold wp_X4_witness at hw
  refine g_aload_n C 0 dX4_witness_0 rfl rfl ?_
  refine g_iload_n C 1 dX4_witness_1 rfl rfl ?_
  refine g_iload_n C 2 dX4_witness_2 rfl rfl ?_
  refine g_callVi C (c_X4_isRule l G hO hwin hw) kX4_isRule tw_363 (Rv.of C (C.win (by decide) (by decide)) rfl (ci := 4) rfl) rfl rfl ⟨Nat.le_of_ble_eq_true rfl, Nat.le_of_ble_eq_true rfl⟩ (As := [.int x1, .int x2]) (rest := []) rfl rfl (Nat.le_of_ble_eq_true rfl) dX4_witness_3 ⟨Nat.le_of_ble_eq_true rfl, Nat.le_of_ble_eq_true rfl⟩ (fun r_2 s_1 hw => ?_)
  refine g_if_eq C 21 dX4_witness_6 (by decide) (fun c_7 => ?_) (fun c_7 => ?_)
  · replace hw := hw.1 c_7
    refine g_iconst C (-1 : Int32) dX4_witness_21 (by decide) ?_
    exact g_iret C hr hlk hw dX4_witness_22
  · replace hw := hw.2 c_7
    refine g_aload_n C 0 dX4_witness_9 rfl rfl ?_
    refine g_iload_n C 1 dX4_witness_10 rfl rfl ?_
    refine g_callVr C (c_X4_policyNumbered l G hO hwin hw) kX4_policyNumbered tw_341 (Rv.of C (C.win (by decide) (by decide)) rfl (ci := 4) rfl) rfl rfl ⟨Nat.le_of_ble_eq_true rfl, Nat.le_of_ble_eq_true rfl⟩ (As := [.int x1]) (rest := []) rfl rfl (Nat.le_of_ble_eq_true rfl) dX4_witness_11 ⟨Nat.le_of_ble_eq_true rfl, Nat.le_of_ble_eq_true rfl⟩ (fun k_4 s_3 hw => ?_)
    have hk_4 := hw.1
    replace hw := hw.2
    refine g_iload_n C 2 dX4_witness_14 rfl rfl ?_
    refine g_callSi C (c_X4_firstChangeWithout l G hO hwin hk_4 hw) kX4_firstChangeWithout tw_560 rfl rfl ⟨Nat.le_of_ble_eq_true rfl, Nat.le_of_ble_eq_true rfl⟩ (As := [.ref (gh G k_4), .int x2]) (rest := []) rfl rfl (Nat.le_of_ble_eq_true rfl) dX4_witness_15 ⟨Nat.le_of_ble_eq_true rfl, Nat.le_of_ble_eq_true rfl⟩ (fun r_6 s_5 hw => ?_)
    refine g_goto C 22 dX4_witness_18 (by decide) ?_
    exact g_iret C hr hlk hw dX4_witness_22

set_option maxHeartbeats 4000000 in
set_option maxRecDepth 100000 in
theorem c_X4_irredundantCore (l : Launch) (G : Gp) (hO : gOK G) (hwin : ∀ k, 0 ≤ k → k < 17 → k ∈ gks G) {x1 : Int32}  {st : St} {Q : Int32 → St → Prop} (hw : wp_X4_irredundantCore x1 st Q) : MI l G yX4_irredundantCore cX4_irredundantCore 6 (some .int) { frames := 4, cells := 0, slots := 0, locals := 91 } [.ref (gh G 0), .int x1] st Q := by
  refine MI.of (own := RX4) (lo := 0) (hi := 17) hO hwin (by decide) rfl (Nat.le_of_ble_eq_true rfl) (fun p e s m args below meth c C hr hlk => ?_)
  refine g_lv (lv' := [(0, .ref (gh G 0)), (1, .int x1)]) rfl ?_
  unfold wp_X4_irredundantCore at hw
  obtain ⟨P24, hP24⟩ : ∃ P : Nat → Int32 → St → Prop, P = fun k2 x3 st => isPol k2 → WG p l e ({ frames := 4, cells := 0, slots := 0, locals := 91 } : Room) s m args below meth c 0 0 (MQ below (va_Qi Q (gB G) (gA G)) args s 0 0 (gA G)) G 6 24 [(0, .ref (gh G 0)), (1, .int x1), (2, .ref (gh G k2)), (3, .int x3)] [] st := ⟨_, rfl⟩
  obtain ⟨P65, hP65⟩ : ∃ P : Nat → Int32 → Int32 → Int32 → St → Prop, P = fun k2 x3 x4 x5 st => isPol k2 → WG p l e ({ frames := 4, cells := 0, slots := 0, locals := 91 } : Room) s m args below meth c 0 0 (MQ below (va_Qi Q (gB G) (gA G)) args s 0 0 (gA G)) G 6 65 [(0, .ref (gh G 0)), (1, .int x1), (2, .ref (gh G k2)), (3, .int x3), (4, .int x4), (5, .int x5)] [] st := ⟨_, rfl⟩
  replace hw := hw P24 P65
  replace hw := hw (by
    intro k2 x3 st hw
    rw [hP24]
    intro hk2
    refine g_iload_n C 3 dX4_irredundantCore_24 rfl rfl ?_
    refine g_sipush C (1024 : Int32) dX4_irredundantCore_25 (by decide) ?_
    refine g_icmp_ge C 49 dX4_irredundantCore_28 (by decide) (fun c_9 => ?_) (fun c_9 => ?_)
    · replace hw := hw.1 c_9
      refine g_aload_n C 2 dX4_irredundantCore_49 rfl rfl ?_
      refine g_callVi C (c_X1_allRules l G hO hwin hk2 hw) kX1_allRules tw_580 (Rv.of C (C.pol hk2) (isPol.cell hk2 G _) (ci := 1) rfl) rfl rfl ⟨Nat.le_of_ble_eq_true rfl, Nat.le_of_ble_eq_true rfl⟩ (As := []) (rest := []) rfl rfl (Nat.le_of_ble_eq_true rfl) dX4_irredundantCore_50 ⟨Nat.le_of_ble_eq_true rfl, Nat.le_of_ble_eq_true rfl⟩ (fun r_2 s_1 hw => ?_)
      refine g_istore_n C dX4_irredundantCore_53 rfl (by decide) (lv' := [(3, .int r_2), (0, .ref (gh G 0)), (1, .int x1), (2, .ref (gh G k2))]) rfl ?_
      refine g_aload_n C 1 dX4_irredundantCore_54 rfl rfl ?_
      refine g_aload_n C 3 dX4_irredundantCore_55 rfl rfl ?_
      refine g_iload_n C 0 dX4_irredundantCore_56 rfl rfl ?_
      refine g_callVi C (c_X4_lowestRedundant l G hO hwin hk2 hw) kX4_lowestRedundant tw_584 (Rv.of C (C.win (by decide) (by decide)) rfl (ci := 4) rfl) rfl rfl ⟨Nat.le_of_ble_eq_true rfl, Nat.le_of_ble_eq_true rfl⟩ (As := [.ref (gh G k2), .int r_2]) (rest := []) rfl rfl (Nat.le_of_ble_eq_true rfl) dX4_irredundantCore_57 ⟨Nat.le_of_ble_eq_true rfl, Nat.le_of_ble_eq_true rfl⟩ (fun r_4 s_3 hw => ?_)
      refine g_istore C dX4_irredundantCore_60 (by decide) (lv' := [(4, .int r_4), (3, .int r_2), (0, .ref (gh G 0)), (1, .int x1), (2, .ref (gh G k2))]) rfl ?_
      refine g_iconst C (0 : Int32) dX4_irredundantCore_62 (by decide) ?_
      refine g_istore C dX4_irredundantCore_63 (by decide) (lv' := [(5, .int (0 : Int32)), (4, .int r_4), (3, .int r_2), (0, .ref (gh G 0)), (1, .int x1), (2, .ref (gh G k2))]) rfl ?_
      rw [hP65] at hw
      exact g_perm [3, 4, 5, 2, 1, 0] rfl (hw hk2)
    · replace hw := hw.2 c_9
      refine g_aload_n C 0 dX4_irredundantCore_31 rfl rfl ?_
      refine g_get C inX4 (C.win (by decide) (by decide)) rfl rfl 4 (by decide) tw_293 rfl dX4_irredundantCore_32 ?_
      refine g_aload_n C 2 dX4_irredundantCore_35 rfl rfl ?_
      refine g_iload_n C 3 dX4_irredundantCore_36 rfl rfl ?_
      refine g_callVi C (c_X1_applying l G hO hwin hk2 hw) kX1_applying tw_504 (Rv.of C (C.pol hk2) (isPol.cell hk2 G _) (ci := 1) rfl) rfl rfl ⟨Nat.le_of_ble_eq_true rfl, Nat.le_of_ble_eq_true rfl⟩ (As := [.int x3]) (rest := [.ref (gh G 14)]) rfl rfl (Nat.le_of_ble_eq_true rfl) dX4_irredundantCore_37 ⟨Nat.le_of_ble_eq_true rfl, Nat.le_of_ble_eq_true rfl⟩ (fun r_6 s_5 hw => ?_)
      refine g_callVv C (c_X3_add l G hO hwin hw) kX3_add tw_576 (Rv.of C (C.win (by decide) (by decide)) rfl (ci := 3) rfl) rfl rfl ⟨Nat.le_of_ble_eq_true rfl, Nat.le_of_ble_eq_true rfl⟩ (As := [.int r_6]) (rest := []) rfl rfl (Nat.le_of_ble_eq_true rfl) dX4_irredundantCore_40 ⟨Nat.le_of_ble_eq_true rfl, Nat.le_of_ble_eq_true rfl⟩ (fun s_7 hw => ?_)
      obtain ⟨x3_8, ex3_8⟩ : ∃ z : Int32, z = x3 + (1 : Int32) := ⟨_, rfl⟩
      replace hw := hw x3_8 ex3_8
      refine g_iinc C x3_8 3 dX4_irredundantCore_43 rfl ex3_8.symm (by decide) (lv' := [(3, .int x3_8), (0, .ref (gh G 0)), (1, .int x1), (2, .ref (gh G k2))]) rfl ?_
      refine g_goto C 24 dX4_irredundantCore_46 (by decide) ?_
      rw [hP24] at hw
      exact g_perm [1, 2, 3, 0] rfl (hw hk2))
  replace hw := hw (by
    intro k2 x3 x4 x5 st hw
    rw [hP65]
    intro hk2
    refine g_iload C 5 dX4_irredundantCore_65 rfl ?_
    refine g_bipush C (8 : Int32) dX4_irredundantCore_67 (by decide) ?_
    refine g_icmp_ge C 98 dX4_irredundantCore_69 (by decide) (fun c_15 => ?_) (fun c_15 => ?_)
    · replace hw := hw.1 c_15
      refine g_iload_n C 3 dX4_irredundantCore_98 rfl rfl ?_
      exact g_iret C hr hlk hw dX4_irredundantCore_99
    · replace hw := hw.2 c_15
      refine g_iload C 4 dX4_irredundantCore_72 rfl ?_
      refine g_if_eq C 98 dX4_irredundantCore_74 (by decide) (fun c_14 => ?_) (fun c_14 => ?_)
      · replace hw := hw.1 c_14
        refine g_iload_n C 3 dX4_irredundantCore_98 rfl rfl ?_
        exact g_iret C hr hlk hw dX4_irredundantCore_99
      · replace hw := hw.2 c_14
        refine g_iload_n C 3 dX4_irredundantCore_77 rfl rfl ?_
        refine g_iload C 4 dX4_irredundantCore_78 rfl ?_
        refine g_iconst C (-1 : Int32) dX4_irredundantCore_80 (by decide) ?_
        refine g_ixor C dX4_irredundantCore_81 ?_
        refine g_iand C dX4_irredundantCore_82 ?_
        refine g_topi (fun x3_10 ex3_10 => ?_)
        replace hw := hw x3_10 ex3_10
        refine g_istore_n C dX4_irredundantCore_83 rfl (by decide) (lv' := [(3, .int x3_10), (0, .ref (gh G 0)), (1, .int x1), (2, .ref (gh G k2)), (4, .int x4), (5, .int x5)]) rfl ?_
        refine g_aload_n C 1 dX4_irredundantCore_84 rfl rfl ?_
        refine g_aload_n C 3 dX4_irredundantCore_85 rfl rfl ?_
        refine g_iload_n C 0 dX4_irredundantCore_86 rfl rfl ?_
        refine g_callVi C (c_X4_lowestRedundant l G hO hwin hk2 hw) kX4_lowestRedundant tw_584 (Rv.of C (C.win (by decide) (by decide)) rfl (ci := 4) rfl) rfl rfl ⟨Nat.le_of_ble_eq_true rfl, Nat.le_of_ble_eq_true rfl⟩ (As := [.ref (gh G k2), .int x3_10]) (rest := []) rfl rfl (Nat.le_of_ble_eq_true rfl) dX4_irredundantCore_87 ⟨Nat.le_of_ble_eq_true rfl, Nat.le_of_ble_eq_true rfl⟩ (fun r_12 s_11 hw => ?_)
        refine g_istore C dX4_irredundantCore_90 (by decide) (lv' := [(4, .int r_12), (3, .int x3_10), (0, .ref (gh G 0)), (1, .int x1), (2, .ref (gh G k2)), (5, .int x5)]) rfl ?_
        obtain ⟨x5_13, ex5_13⟩ : ∃ z : Int32, z = x5 + (1 : Int32) := ⟨_, rfl⟩
        replace hw := hw x5_13 ex5_13
        refine g_iinc C x5_13 5 dX4_irredundantCore_92 rfl ex5_13.symm (by decide) (lv' := [(5, .int x5_13), (4, .int r_12), (3, .int x3_10), (0, .ref (gh G 0)), (1, .int x1), (2, .ref (gh G k2))]) rfl ?_
        refine g_goto C 65 dX4_irredundantCore_95 (by decide) ?_
        rw [hP65] at hw
        exact g_perm [3, 4, 5, 2, 1, 0] rfl (hw hk2))
  refine g_iload_n C 1 dX4_irredundantCore_0 rfl rfl ?_
  refine g_callSi C (c_X4_isPolicy l G hO hwin hw) kX4_isPolicy tw_335 rfl rfl ⟨Nat.le_of_ble_eq_true rfl, Nat.le_of_ble_eq_true rfl⟩ (As := [.int x1]) (rest := []) rfl rfl (Nat.le_of_ble_eq_true rfl) dX4_irredundantCore_1 ⟨Nat.le_of_ble_eq_true rfl, Nat.le_of_ble_eq_true rfl⟩ (fun r_17 s_16 hw => ?_)
  refine g_if_ne C 9 dX4_irredundantCore_4 (by decide) (fun c_21 => ?_) (fun c_21 => ?_)
  · replace hw := hw.2 c_21
    refine g_aload_n C 0 dX4_irredundantCore_9 rfl rfl ?_
    refine g_iload_n C 1 dX4_irredundantCore_10 rfl rfl ?_
    refine g_callVr C (c_X4_policyNumbered l G hO hwin hw) kX4_policyNumbered tw_341 (Rv.of C (C.win (by decide) (by decide)) rfl (ci := 4) rfl) rfl rfl ⟨Nat.le_of_ble_eq_true rfl, Nat.le_of_ble_eq_true rfl⟩ (As := [.int x1]) (rest := []) rfl rfl (Nat.le_of_ble_eq_true rfl) dX4_irredundantCore_11 ⟨Nat.le_of_ble_eq_true rfl, Nat.le_of_ble_eq_true rfl⟩ (fun k_19 s_18 hw => ?_)
    have hk_19 := hw.1
    replace hw := hw.2
    refine g_astore_n C dX4_irredundantCore_14 rfl (by decide) (lv' := [(2, .ref (gh G k_19)), (0, .ref (gh G 0)), (1, .int x1)]) rfl ?_
    refine g_aload_n C 1 dX4_irredundantCore_15 rfl rfl ?_
    refine g_get C inX4 (C.win (by decide) (by decide)) rfl rfl 4 (by decide) tw_293 rfl dX4_irredundantCore_16 ?_
    refine g_callVv C (c_X3_empty l G hO hwin hw) kX3_empty tw_572 (Rv.of C (C.win (by decide) (by decide)) rfl (ci := 3) rfl) rfl rfl ⟨Nat.le_of_ble_eq_true rfl, Nat.le_of_ble_eq_true rfl⟩ (As := []) (rest := []) rfl rfl (Nat.le_of_ble_eq_true rfl) dX4_irredundantCore_19 ⟨Nat.le_of_ble_eq_true rfl, Nat.le_of_ble_eq_true rfl⟩ (fun s_20 hw => ?_)
    refine g_iconst C (0 : Int32) dX4_irredundantCore_22 (by decide) ?_
    refine g_istore_n C dX4_irredundantCore_23 rfl (by decide) (lv' := [(3, .int (0 : Int32)), (2, .ref (gh G k_19)), (0, .ref (gh G 0)), (1, .int x1)]) rfl ?_
    rw [hP24] at hw
    exact g_perm [2, 3, 1, 0] rfl (hw hk_19)
  · replace hw := hw.1 c_21
    refine g_iconst C (-1 : Int32) dX4_irredundantCore_7 (by decide) ?_
    exact g_iret C hr hlk hw dX4_irredundantCore_8

set_option maxHeartbeats 4000000 in
set_option maxRecDepth 100000 in
theorem c_X4_leastRemoval (l : Launch) (G : Gp) (hO : gOK G) (hwin : ∀ k, 0 ≤ k → k < 17 → k ∈ gks G)   {st : St} {Q : Int32 → St → Prop} (hw : wp_X4_leastRemoval  st Q) : MI l G yX4_leastRemoval cX4_leastRemoval 5 (some .int) { frames := 3, cells := 0, slots := 0, locals := 66 } [.ref (gh G 0)] st Q := by
  refine MI.of (own := RX4) (lo := 0) (hi := 17) hO hwin (by decide) rfl (Nat.le_of_ble_eq_true rfl) (fun p e s m args below meth c C hr hlk => ?_)
  refine g_lv (lv' := [(0, .ref (gh G 0))]) rfl ?_
  unfold wp_X4_leastRemoval at hw
  obtain ⟨P9, hP9⟩ : ∃ P : Int32 → St → Prop, P = fun x1 st => WG p l e ({ frames := 3, cells := 0, slots := 0, locals := 66 } : Room) s m args below meth c 0 0 (MQ below (va_Qi Q (gB G) (gA G)) args s 0 0 (gA G)) G 5 9 [(0, .ref (gh G 0)), (1, .int x1)] [] st := ⟨_, rfl⟩
  obtain ⟨P65, hP65⟩ : ∃ P : Int32 → Int32 → Int32 → Int32 → St → Prop, P = fun x1 x2 x3 x4 st => WG p l e ({ frames := 3, cells := 0, slots := 0, locals := 66 } : Room) s m args below meth c 0 0 (MQ below (va_Qi Q (gB G) (gA G)) args s 0 0 (gA G)) G 5 65 [(0, .ref (gh G 0)), (1, .int x1), (2, .int x2), (3, .int x3), (4, .int x4)] [] st := ⟨_, rfl⟩
  replace hw := hw P9 P65
  replace hw := hw (by
    intro x1 st hw
    rw [hP9]
    refine g_iload_n C 1 dX4_leastRemoval_9 rfl rfl ?_
    refine g_sipush C (1024 : Int32) dX4_leastRemoval_10 (by decide) ?_
    refine g_icmp_ge C 48 dX4_leastRemoval_13 (by decide) (fun c_11 => ?_) (fun c_11 => ?_)
    · replace hw := hw.1 c_11
      refine g_aload_n C 0 dX4_leastRemoval_48 rfl rfl ?_
      refine g_get C inX4 (C.win (by decide) (by decide)) rfl rfl 1 (by decide) tw_290 rfl dX4_leastRemoval_49 ?_
      refine g_callVi C (c_X1_allRules l G hO hwin (Or.inr (Or.inl rfl)) hw) kX1_allRules tw_580 (Rv.of C (C.pol (Or.inr (Or.inl rfl))) (isPol.cell (Or.inr (Or.inl rfl)) G _) (ci := 1) rfl) rfl rfl ⟨Nat.le_of_ble_eq_true rfl, Nat.le_of_ble_eq_true rfl⟩ (As := []) (rest := []) rfl rfl (Nat.le_of_ble_eq_true rfl) dX4_leastRemoval_52 ⟨Nat.le_of_ble_eq_true rfl, Nat.le_of_ble_eq_true rfl⟩ (fun r_2 s_1 hw => ?_)
      refine g_istore_n C dX4_leastRemoval_55 rfl (by decide) (lv' := [(1, .int r_2), (0, .ref (gh G 0))]) rfl ?_
      refine g_bipush C (-4 : Int32) dX4_leastRemoval_56 (by decide) ?_
      refine g_istore_n C dX4_leastRemoval_58 rfl (by decide) (lv' := [(2, .int (-4 : Int32)), (1, .int r_2), (0, .ref (gh G 0))]) rfl ?_
      refine g_bipush C (9 : Int32) dX4_leastRemoval_59 (by decide) ?_
      refine g_istore_n C dX4_leastRemoval_61 rfl (by decide) (lv' := [(3, .int (9 : Int32)), (2, .int (-4 : Int32)), (1, .int r_2), (0, .ref (gh G 0))]) rfl ?_
      refine g_iconst C (0 : Int32) dX4_leastRemoval_62 (by decide) ?_
      refine g_istore C dX4_leastRemoval_63 (by decide) (lv' := [(4, .int (0 : Int32)), (3, .int (9 : Int32)), (2, .int (-4 : Int32)), (1, .int r_2), (0, .ref (gh G 0))]) rfl ?_
      rw [hP65] at hw
      exact g_perm [4, 3, 2, 1, 0] rfl (hw)
    · replace hw := hw.2 c_11
      refine g_aload_n C 0 dX4_leastRemoval_16 rfl rfl ?_
      refine g_get C inX4 (C.win (by decide) (by decide)) rfl rfl 0 (by decide) tw_289 rfl dX4_leastRemoval_17 ?_
      refine g_iload_n C 1 dX4_leastRemoval_20 rfl rfl ?_
      refine g_callVi C (c_X1_decisionOn l G hO hwin (Or.inl rfl) hw) kX1_decisionOn tw_466 (Rv.of C (C.pol (Or.inl rfl)) (isPol.cell (Or.inl rfl) G _) (ci := 1) rfl) rfl rfl ⟨Nat.le_of_ble_eq_true rfl, Nat.le_of_ble_eq_true rfl⟩ (As := [.int x1]) (rest := []) rfl rfl (Nat.le_of_ble_eq_true rfl) dX4_leastRemoval_21 ⟨Nat.le_of_ble_eq_true rfl, Nat.le_of_ble_eq_true rfl⟩ (fun r_4 s_3 hw => ?_)
      refine g_if_eq C 42 dX4_leastRemoval_24 (by decide) (fun c_10 => ?_) (fun c_10 => ?_)
      · replace hw := hw.1 c_10
        obtain ⟨x1_5, ex1_5⟩ : ∃ z : Int32, z = x1 + (1 : Int32) := ⟨_, rfl⟩
        replace hw := hw x1_5 ex1_5
        refine g_iinc C x1_5 1 dX4_leastRemoval_42 rfl ex1_5.symm (by decide) (lv' := [(1, .int x1_5), (0, .ref (gh G 0))]) rfl ?_
        refine g_goto C 9 dX4_leastRemoval_45 (by decide) ?_
        rw [hP9] at hw
        exact g_perm [1, 0] rfl (hw)
      · replace hw := hw.2 c_10
        refine g_aload_n C 0 dX4_leastRemoval_27 rfl rfl ?_
        refine g_get C inX4 (C.win (by decide) (by decide)) rfl rfl 4 (by decide) tw_293 rfl dX4_leastRemoval_28 ?_
        refine g_aload_n C 0 dX4_leastRemoval_31 rfl rfl ?_
        refine g_get C inX4 (C.win (by decide) (by decide)) rfl rfl 1 (by decide) tw_290 rfl dX4_leastRemoval_32 ?_
        refine g_iload_n C 1 dX4_leastRemoval_35 rfl rfl ?_
        refine g_callVi C (c_X1_applying l G hO hwin (Or.inr (Or.inl rfl)) hw) kX1_applying tw_504 (Rv.of C (C.pol (Or.inr (Or.inl rfl))) (isPol.cell (Or.inr (Or.inl rfl)) G _) (ci := 1) rfl) rfl rfl ⟨Nat.le_of_ble_eq_true rfl, Nat.le_of_ble_eq_true rfl⟩ (As := [.int x1]) (rest := [.ref (gh G 14)]) rfl rfl (Nat.le_of_ble_eq_true rfl) dX4_leastRemoval_36 ⟨Nat.le_of_ble_eq_true rfl, Nat.le_of_ble_eq_true rfl⟩ (fun r_7 s_6 hw => ?_)
        refine g_callVv C (c_X3_add l G hO hwin hw) kX3_add tw_576 (Rv.of C (C.win (by decide) (by decide)) rfl (ci := 3) rfl) rfl rfl ⟨Nat.le_of_ble_eq_true rfl, Nat.le_of_ble_eq_true rfl⟩ (As := [.int r_7]) (rest := []) rfl rfl (Nat.le_of_ble_eq_true rfl) dX4_leastRemoval_39 ⟨Nat.le_of_ble_eq_true rfl, Nat.le_of_ble_eq_true rfl⟩ (fun s_8 hw => ?_)
        obtain ⟨x1_9, ex1_9⟩ : ∃ z : Int32, z = x1 + (1 : Int32) := ⟨_, rfl⟩
        replace hw := hw x1_9 ex1_9
        refine g_iinc C x1_9 1 dX4_leastRemoval_42 rfl ex1_9.symm (by decide) (lv' := [(1, .int x1_9), (0, .ref (gh G 0))]) rfl ?_
        refine g_goto C 9 dX4_leastRemoval_45 (by decide) ?_
        rw [hP9] at hw
        exact g_perm [1, 0] rfl (hw))
  replace hw := hw (by
    intro x1 x2 x3 x4 st hw
    rw [hP65]
    refine g_iload C 4 dX4_leastRemoval_65 rfl ?_
    refine g_iload_n C 1 dX4_leastRemoval_67 rfl rfl ?_
    refine g_icmp_gt C 115 dX4_leastRemoval_68 (by decide) (fun c_23 => ?_) (fun c_23 => ?_)
    · replace hw := hw.1 c_23
      refine g_iload_n C 2 dX4_leastRemoval_115 rfl rfl ?_
      exact g_iret C hr hlk hw dX4_leastRemoval_116
    · replace hw := hw.2 c_23
      refine g_iload C 4 dX4_leastRemoval_71 rfl ?_
      refine g_callSi C (c_J6_bitCount_0f7a4 l G hO hwin hw) kJ6_bitCount_0f7a4 tw_505 rfl rfl ⟨Nat.le_of_ble_eq_true rfl, Nat.le_of_ble_eq_true rfl⟩ (As := [.int x4]) (rest := []) rfl rfl (Nat.le_of_ble_eq_true rfl) dX4_leastRemoval_73 ⟨Nat.le_of_ble_eq_true rfl, Nat.le_of_ble_eq_true rfl⟩ (fun r_13 s_12 hw => ?_)
      refine g_iload_n C 3 dX4_leastRemoval_76 rfl rfl ?_
      refine g_icmp_ge C 109 dX4_leastRemoval_77 (by decide) (fun c_22 => ?_) (fun c_22 => ?_)
      · replace hw := hw.1 c_22
        obtain ⟨x4_14, ex4_14⟩ : ∃ z : Int32, z = x4 + (1 : Int32) := ⟨_, rfl⟩
        replace hw := hw x4_14 ex4_14
        refine g_iinc C x4_14 4 dX4_leastRemoval_109 rfl ex4_14.symm (by decide) (lv' := [(4, .int x4_14), (0, .ref (gh G 0)), (1, .int x1), (2, .int x2), (3, .int x3)]) rfl ?_
        refine g_goto C 65 dX4_leastRemoval_112 (by decide) ?_
        rw [hP65] at hw
        exact g_perm [1, 2, 3, 4, 0] rfl (hw)
      · replace hw := hw.2 c_22
        refine g_aload_n C 0 dX4_leastRemoval_80 rfl rfl ?_
        refine g_get C inX4 (C.win (by decide) (by decide)) rfl rfl 4 (by decide) tw_293 rfl dX4_leastRemoval_81 ?_
        refine g_aload_n C 0 dX4_leastRemoval_84 rfl rfl ?_
        refine g_get C inX4 (C.win (by decide) (by decide)) rfl rfl 1 (by decide) tw_290 rfl dX4_leastRemoval_85 ?_
        refine g_iload_n C 1 dX4_leastRemoval_88 rfl rfl ?_
        refine g_iload C 4 dX4_leastRemoval_89 rfl ?_
        refine g_iconst C (-1 : Int32) dX4_leastRemoval_91 (by decide) ?_
        refine g_ixor C dX4_leastRemoval_92 ?_
        refine g_iand C dX4_leastRemoval_93 ?_
        refine g_callVi C (c_X3_anyGranted l G hO hwin (Or.inr (Or.inl rfl)) hw) kX3_anyGranted tw_597 (Rv.of C (C.win (by decide) (by decide)) rfl (ci := 3) rfl) rfl rfl ⟨Nat.le_of_ble_eq_true rfl, Nat.le_of_ble_eq_true rfl⟩ (As := [.ref (gh G 3), .int (x1 &&& (x4 ^^^ (-1 : Int32)))]) (rest := []) rfl rfl (Nat.le_of_ble_eq_true rfl) dX4_leastRemoval_94 ⟨Nat.le_of_ble_eq_true rfl, Nat.le_of_ble_eq_true rfl⟩ (fun r_16 s_15 hw => ?_)
        refine g_if_ne C 109 dX4_leastRemoval_97 (by decide) (fun c_21 => ?_) (fun c_21 => ?_)
        · replace hw := hw.2 c_21
          obtain ⟨x4_17, ex4_17⟩ : ∃ z : Int32, z = x4 + (1 : Int32) := ⟨_, rfl⟩
          replace hw := hw x4_17 ex4_17
          refine g_iinc C x4_17 4 dX4_leastRemoval_109 rfl ex4_17.symm (by decide) (lv' := [(4, .int x4_17), (0, .ref (gh G 0)), (1, .int x1), (2, .int x2), (3, .int x3)]) rfl ?_
          refine g_goto C 65 dX4_leastRemoval_112 (by decide) ?_
          rw [hP65] at hw
          exact g_perm [1, 2, 3, 4, 0] rfl (hw)
        · replace hw := hw.1 c_21
          refine g_iload C 4 dX4_leastRemoval_100 rfl ?_
          refine g_istore_n C dX4_leastRemoval_102 rfl (by decide) (lv' := [(2, .int x4), (0, .ref (gh G 0)), (1, .int x1), (3, .int x3), (4, .int x4)]) rfl ?_
          refine g_iload C 4 dX4_leastRemoval_103 rfl ?_
          refine g_callSi C (c_J6_bitCount_0f7a4 l G hO hwin hw) kJ6_bitCount_0f7a4 tw_505 rfl rfl ⟨Nat.le_of_ble_eq_true rfl, Nat.le_of_ble_eq_true rfl⟩ (As := [.int x4]) (rest := []) rfl rfl (Nat.le_of_ble_eq_true rfl) dX4_leastRemoval_105 ⟨Nat.le_of_ble_eq_true rfl, Nat.le_of_ble_eq_true rfl⟩ (fun r_19 s_18 hw => ?_)
          refine g_istore_n C dX4_leastRemoval_108 rfl (by decide) (lv' := [(3, .int r_19), (2, .int x4), (0, .ref (gh G 0)), (1, .int x1), (4, .int x4)]) rfl ?_
          obtain ⟨x4_20, ex4_20⟩ : ∃ z : Int32, z = x4 + (1 : Int32) := ⟨_, rfl⟩
          replace hw := hw x4_20 ex4_20
          refine g_iinc C x4_20 4 dX4_leastRemoval_109 rfl ex4_20.symm (by decide) (lv' := [(4, .int x4_20), (3, .int r_19), (2, .int x4), (0, .ref (gh G 0)), (1, .int x1)]) rfl ?_
          refine g_goto C 65 dX4_leastRemoval_112 (by decide) ?_
          rw [hP65] at hw
          exact g_perm [3, 4, 2, 1, 0] rfl (hw))
  refine g_aload_n C 0 dX4_leastRemoval_0 rfl rfl ?_
  refine g_get C inX4 (C.win (by decide) (by decide)) rfl rfl 4 (by decide) tw_293 rfl dX4_leastRemoval_1 ?_
  refine g_callVv C (c_X3_empty l G hO hwin hw) kX3_empty tw_572 (Rv.of C (C.win (by decide) (by decide)) rfl (ci := 3) rfl) rfl rfl ⟨Nat.le_of_ble_eq_true rfl, Nat.le_of_ble_eq_true rfl⟩ (As := []) (rest := []) rfl rfl (Nat.le_of_ble_eq_true rfl) dX4_leastRemoval_4 ⟨Nat.le_of_ble_eq_true rfl, Nat.le_of_ble_eq_true rfl⟩ (fun s_24 hw => ?_)
  refine g_iconst C (0 : Int32) dX4_leastRemoval_7 (by decide) ?_
  refine g_istore_n C dX4_leastRemoval_8 rfl (by decide) (lv' := [(1, .int (0 : Int32)), (0, .ref (gh G 0))]) rfl ?_
  rw [hP9] at hw
  exact g_perm [1, 0] rfl (hw)

set_option maxHeartbeats 4000000 in
set_option maxRecDepth 100000 in
theorem c_X4_historySize (l : Launch) (G : Gp) (hO : gOK G) (hwin : ∀ k, 0 ≤ k → k < 17 → k ∈ gks G)   {st : St} {Q : Int32 → St → Prop} (hw : wp_X4_historySize  st Q) : MI l G yX4_historySize cX4_historySize 1 (some .int) { frames := 1, cells := 0, slots := 0, locals := 20 } [.ref (gh G 0)] st Q := by
  refine MI.of (own := RX4) (lo := 0) (hi := 17) hO hwin (by decide) rfl (Nat.le_of_ble_eq_true rfl) (fun p e s m args below meth c C hr hlk => ?_)
  refine g_lv (lv' := [(0, .ref (gh G 0))]) rfl ?_
  unfold wp_X4_historySize at hw
  refine g_aload_n C 0 dX4_historySize_0 rfl rfl ?_
  refine g_get C inX4 (C.win (by decide) (by decide)) rfl rfl 3 (by decide) tw_292 rfl dX4_historySize_1 ?_
  refine g_callVi C (c_X0_size l G hO hwin hw) kX0_size tw_427 (Rv.of C (C.win (by decide) (by decide)) rfl (ci := 0) rfl) rfl rfl ⟨Nat.le_of_ble_eq_true rfl, Nat.le_of_ble_eq_true rfl⟩ (As := []) (rest := []) rfl rfl (Nat.le_of_ble_eq_true rfl) dX4_historySize_4 ⟨Nat.le_of_ble_eq_true rfl, Nat.le_of_ble_eq_true rfl⟩ (fun r_2 s_1 hw => ?_)
  exact g_iret C hr hlk hw dX4_historySize_7
