set_option maxHeartbeats 4000000 in
set_option maxRecDepth 100000 in
theorem n_X1_init (l : Launch) (G : Gp) (hO : gOK G) (X : va_W) (a : Nat) : MN l G yX1_init cX1_init 1 { frames := 1, cells := 1, slots := 25, locals := 20 } 1 25 a X [(a, .inr (1, [.null, .int 0, .int 0]))] (fun u => [(a, .inr (1, [.ref (u.getD 0 0), .int 0, .int 0])), ((u.getD 0 0), .inl (gI G, 25, .inl (fun _ => 0)))]) := by
  refine MN.of (own := RX1) hO (by decide) rfl rfl (Nat.le_of_ble_eq_true rfl) (fun p e s m args below meth c C A hnm hr hlk => ?_)
  refine r_aload0 C dX1_init_0 rfl ?_
  refine r_obj C tw_62 dX1_init_1 ⟨Nat.le_of_ble_eq_true rfl, Nat.le_of_ble_eq_true rfl⟩ (Nat.le_of_ble_eq_true rfl) ?_
  refine r_aload0 C dX1_init_4 rfl ?_
  refine r_bipush C 25 dX1_init_5 rfl ?_
  refine r_newa (atype := .int) (ty := .int) (t0 := 0) (cA0 := gI G) (N := 25) C A tw_73 rfl rfl (fun cA h1 h2 => Option.some.inj (h1.symm.trans h2)) (fun _ => rfl) (by decide) rfl (Nat.le_of_ble_eq_true rfl) (Nat.le_of_ble_eq_true rfl) (Nat.le_of_ble_eq_true rfl) dX1_init_7 (fun q0 => ?_)
  refine r_putF (ty := (.array .int)) (T2 := [(a, .inr (1, [.ref q0, .int 0, .int 0])), (q0, .inl (gI G, 25, .inl (fun _ => 0)))]) C hnm inX1 tyX1_ok nmX1 0 rfl rfl 0 (by decide) tw_63 rfl rfl (by decide +kernel) rfl rfl (Nat.le_of_ble_eq_true rfl) rfl dX1_init_9 ?_
  refine r_aload0 C dX1_init_12 rfl ?_
  refine r_iconst C 0 dX1_init_13 rfl ?_
  refine r_put (ty := .int) (T2 := [(a, .inr (1, [.ref q0, .int 0, .int 0])), (q0, .inl (gI G, 25, .inl (fun _ => 0)))]) C inX1 tyX1_ok nmX1 0 rfl rfl 1 (by decide) tw_64 rfl (by decide +kernel) rfl rfl (Nat.le_of_ble_eq_true rfl) rfl dX1_init_14 ?_
  refine r_aload0 C dX1_init_17 rfl ?_
  refine r_iconst C 0 dX1_init_18 rfl ?_
  refine r_put (ty := .int) (T2 := [(a, .inr (1, [.ref q0, .int 0, .int 0])), (q0, .inl (gI G, 25, .inl (fun _ => 0)))]) C inX1 tyX1_ok nmX1 0 rfl rfl 2 (by decide) tw_65 rfl (by decide +kernel) rfl rfl (Nat.le_of_ble_eq_true rfl) rfl dX1_init_19 ?_
  exact r_vret C hr hlk [q0] rfl dX1_init_22
set_option maxHeartbeats 4000000 in
set_option maxRecDepth 100000 in
theorem n_X0_init (l : Launch) (G : Gp) (hO : gOK G) (X : va_W) (a : Nat) : MN l G yX0_init cX0_init 1 { frames := 1, cells := 2, slots := 112, locals := 20 } 2 112 a X [(a, .inr (0, [.null, .null, .int 0]))] (fun u => [(a, .inr (0, [.ref (u.getD 0 0), .ref (u.getD 1 0), .int 0])), ((u.getD 0 0), .inl (gI G, 4, .inl (fun _ => 0))), ((u.getD 1 0), .inl (gI G, 108, .inl (fun _ => 0)))]) := by
  refine MN.of (own := RX0) hO (by decide) rfl rfl (Nat.le_of_ble_eq_true rfl) (fun p e s m args below meth c C A hnm hr hlk => ?_)
  refine r_aload0 C dX0_init_0 rfl ?_
  refine r_obj C tw_107 dX0_init_1 ⟨Nat.le_of_ble_eq_true rfl, Nat.le_of_ble_eq_true rfl⟩ (Nat.le_of_ble_eq_true rfl) ?_
  refine r_aload0 C dX0_init_4 rfl ?_
  refine r_iconst C 4 dX0_init_5 rfl ?_
  refine r_newa (atype := .int) (ty := .int) (t0 := 0) (cA0 := gI G) (N := 4) C A tw_73 rfl rfl (fun cA h1 h2 => Option.some.inj (h1.symm.trans h2)) (fun _ => rfl) (by decide) rfl (Nat.le_of_ble_eq_true rfl) (Nat.le_of_ble_eq_true rfl) (Nat.le_of_ble_eq_true rfl) dX0_init_6 (fun q0 => ?_)
  refine r_putF (ty := (.array .int)) (T2 := [(a, .inr (0, [.ref q0, .null, .int 0])), (q0, .inl (gI G, 4, .inl (fun _ => 0)))]) C hnm inX0 tyX0_ok nmX0 0 rfl rfl 0 (by decide) tw_108 rfl rfl (by decide +kernel) rfl rfl (Nat.le_of_ble_eq_true rfl) rfl dX0_init_8 ?_
  refine r_aload0 C dX0_init_11 rfl ?_
  refine r_bipush C 108 dX0_init_12 rfl ?_
  refine r_newa (atype := .int) (ty := .int) (t0 := 0) (cA0 := gI G) (N := 108) C A tw_73 rfl rfl (fun cA h1 h2 => Option.some.inj (h1.symm.trans h2)) (fun _ => rfl) (by decide) rfl (Nat.le_of_ble_eq_true rfl) (Nat.le_of_ble_eq_true rfl) (Nat.le_of_ble_eq_true rfl) dX0_init_14 (fun q1 => ?_)
  refine r_putF (ty := (.array .int)) (T2 := [(a, .inr (0, [.ref q0, .ref q1, .int 0])), (q0, .inl (gI G, 4, .inl (fun _ => 0))), (q1, .inl (gI G, 108, .inl (fun _ => 0)))]) C hnm inX0 tyX0_ok nmX0 0 rfl rfl 1 (by decide) tw_109 rfl rfl (by decide +kernel) rfl rfl (Nat.le_of_ble_eq_true rfl) rfl dX0_init_16 ?_
  refine r_aload0 C dX0_init_19 rfl ?_
  refine r_iconst C 0 dX0_init_20 rfl ?_
  refine r_put (ty := .int) (T2 := [(a, .inr (0, [.ref q0, .ref q1, .int 0])), (q0, .inl (gI G, 4, .inl (fun _ => 0))), (q1, .inl (gI G, 108, .inl (fun _ => 0)))]) C inX0 tyX0_ok nmX0 0 rfl rfl 2 (by decide) tw_110 rfl (by decide +kernel) rfl rfl (Nat.le_of_ble_eq_true rfl) rfl dX0_init_21 ?_
  exact r_vret C hr hlk [q0, q1] rfl dX0_init_24
set_option maxHeartbeats 4000000 in
set_option maxRecDepth 100000 in
theorem n_X3_init (l : Launch) (G : Gp) (hO : gOK G) (X : va_W) (a : Nat) : MN l G yX3_init cX3_init 1 { frames := 1, cells := 2, slots := 512, locals := 20 } 2 512 a X [(a, .inr (3, [.null, .null, .int 0]))] (fun u => [(a, .inr (3, [.ref (u.getD 0 0), .ref (u.getD 1 0), .int 0])), ((u.getD 0 0), .inl (gI G, 256, .inl (fun _ => 0))), ((u.getD 1 0), .inl (gZ G, 256, .inl (fun _ => 0)))]) := by
  refine MN.of (own := RX3) hO (by decide) rfl rfl (Nat.le_of_ble_eq_true rfl) (fun p e s m args below meth c C A hnm hr hlk => ?_)
  refine r_aload0 C dX3_init_0 rfl ?_
  refine r_obj C tw_123 dX3_init_1 ⟨Nat.le_of_ble_eq_true rfl, Nat.le_of_ble_eq_true rfl⟩ (Nat.le_of_ble_eq_true rfl) ?_
  refine r_aload0 C dX3_init_4 rfl ?_
  refine r_sipush C 256 dX3_init_5 rfl ?_
  refine r_newa (atype := .int) (ty := .int) (t0 := 0) (cA0 := gI G) (N := 256) C A tw_73 rfl rfl (fun cA h1 h2 => Option.some.inj (h1.symm.trans h2)) (fun _ => rfl) (by decide) rfl (Nat.le_of_ble_eq_true rfl) (Nat.le_of_ble_eq_true rfl) (Nat.le_of_ble_eq_true rfl) dX3_init_8 (fun q0 => ?_)
  refine r_putF (ty := (.array .int)) (T2 := [(a, .inr (3, [.ref q0, .null, .int 0])), (q0, .inl (gI G, 256, .inl (fun _ => 0)))]) C hnm inX3 tyX3_ok nmX3 0 rfl rfl 0 (by decide) tw_124 rfl rfl (by decide +kernel) rfl rfl (Nat.le_of_ble_eq_true rfl) rfl dX3_init_10 ?_
  refine r_aload0 C dX3_init_13 rfl ?_
  refine r_sipush C 256 dX3_init_14 rfl ?_
  refine r_newa (atype := .boolean) (ty := .boolean) (t0 := 2) (cA0 := gZ G) (N := 256) C A tw_134 rfl rfl (fun cA h1 h2 => Option.some.inj (h1.symm.trans h2)) (fun _ => rfl) (by decide) rfl (Nat.le_of_ble_eq_true rfl) (Nat.le_of_ble_eq_true rfl) (Nat.le_of_ble_eq_true rfl) dX3_init_17 (fun q1 => ?_)
  refine r_putF (ty := (.array .boolean)) (T2 := [(a, .inr (3, [.ref q0, .ref q1, .int 0])), (q0, .inl (gI G, 256, .inl (fun _ => 0))), (q1, .inl (gZ G, 256, .inl (fun _ => 0)))]) C hnm inX3 tyX3_ok nmX3 0 rfl rfl 1 (by decide) tw_125 rfl rfl (by decide +kernel) rfl rfl (Nat.le_of_ble_eq_true rfl) rfl dX3_init_19 ?_
  refine r_aload0 C dX3_init_22 rfl ?_
  refine r_iconst C 0 dX3_init_23 rfl ?_
  refine r_put (ty := .int) (T2 := [(a, .inr (3, [.ref q0, .ref q1, .int 0])), (q0, .inl (gI G, 256, .inl (fun _ => 0))), (q1, .inl (gZ G, 256, .inl (fun _ => 0)))]) C inX3 tyX3_ok nmX3 0 rfl rfl 2 (by decide) tw_126 rfl (by decide +kernel) rfl rfl (Nat.le_of_ble_eq_true rfl) rfl dX3_init_24 ?_
  exact r_vret C hr hlk [q0, q1] rfl dX3_init_27
set_option maxHeartbeats 4000000 in
set_option maxRecDepth 100000 in
theorem n_X2_init (l : Launch) (G : Gp) (hO : gOK G) (X : va_W) (a : Nat) : MN l G yX2_init cX2_init 1 { frames := 2, cells := 5, slots := 296, locals := 40 } 5 296 a X [(a, .inr (2, [.null, .null, .null, .null, .int 0, .int 0]))] (fun u => [(a, .inr (2, [.ref (u.getD 0 0), .ref (u.getD 1 0), .ref (u.getD 3 0), .ref (u.getD 1 0), .int 0, .int 0])), ((u.getD 0 0), .inl (gC G, 240, .inl (fun _ => 0))), ((u.getD 1 0), .inr (1, [.ref (u.getD 2 0), .int 0, .int 0])), ((u.getD 2 0), .inl (gI G, 25, .inl (fun _ => 0))), ((u.getD 3 0), .inr (1, [.ref (u.getD 4 0), .int 0, .int 0])), ((u.getD 4 0), .inl (gI G, 25, .inl (fun _ => 0)))]) := by
  refine MN.of (own := RX2) hO (by decide) rfl rfl (Nat.le_of_ble_eq_true rfl) (fun p e s m args below meth c C A hnm hr hlk => ?_)
  refine r_aload0 C dX2_init_0 rfl ?_
  refine r_obj C tw_79 dX2_init_1 ⟨Nat.le_of_ble_eq_true rfl, Nat.le_of_ble_eq_true rfl⟩ (Nat.le_of_ble_eq_true rfl) ?_
  refine r_aload0 C dX2_init_4 rfl ?_
  refine r_sipush C 240 dX2_init_5 rfl ?_
  refine r_newa (atype := .char) (ty := .char) (t0 := 1) (cA0 := gC G) (N := 240) C A tw_101 rfl rfl (fun cA h1 h2 => Option.some.inj (h1.symm.trans h2)) (fun _ => rfl) (by decide) rfl (Nat.le_of_ble_eq_true rfl) (Nat.le_of_ble_eq_true rfl) (Nat.le_of_ble_eq_true rfl) dX2_init_8 (fun q0 => ?_)
  refine r_putF (ty := (.array .char)) (T2 := [(a, .inr (2, [.ref q0, .null, .null, .null, .int 0, .int 0])), (q0, .inl (gC G, 240, .inl (fun _ => 0)))]) C hnm inX2 tyX2_ok nmX2 0 rfl rfl 0 (by decide) tw_82 rfl rfl (by decide +kernel) rfl rfl (Nat.le_of_ble_eq_true rfl) rfl dX2_init_10 ?_
  refine r_aload0 C dX2_init_13 rfl ?_
  refine r_new (ci := 1) (fs := [.null, .int 0, .int 0]) C A inX1 tyX1_ok tw_80 tw_58 tw_37 rfl (by decide) (Nat.le_of_ble_eq_true rfl) (Nat.le_of_ble_eq_true rfl) dX2_init_14 (fun q1 => ?_)
  refine r_dup C dX2_init_17 ?_
  refine r_ctor (host := "PolicyComparer") (rm := { frames := 1, cells := 1, slots := 25, locals := 20 }) (mc := 1) (ms := 25) (T1 := [(a, .inr (2, [.ref q0, .null, .null, .null, .int 0, .int 0])), (q0, .inl (gC G, 240, .inl (fun _ => 0)))]) C A (n_X1_init l G hO (X ++ [(a, .inr (2, [.ref q0, .null, .null, .null, .int 0, .int 0])), (q0, .inl (gC G, 240, .inl (fun _ => 0)))]) q1) rfl tw_61 tw_37 (by decide +kernel) rfl tw_60 (fun h => h.2.2.2.2.2.2.2.2.2.2.2.2.2) rfl rfl ⟨Nat.le_of_ble_eq_true rfl, Nat.le_of_ble_eq_true rfl⟩ (Nat.le_of_ble_eq_true rfl) dX2_init_18 ⟨Nat.le_of_ble_eq_true rfl, Nat.le_of_ble_eq_true rfl⟩ (fun u2 => ?_)
  refine r_putF (ty := (.object "PolicyComparer$Policy")) (T2 := [(a, .inr (2, [.ref q0, .ref q1, .null, .null, .int 0, .int 0])), (q0, .inl (gC G, 240, .inl (fun _ => 0))), (q1, .inr (1, [.ref (u2.getD 0 0), .int 0, .int 0])), ((u2.getD 0 0), .inl (gI G, 25, .inl (fun _ => 0)))]) C hnm inX2 tyX2_ok nmX2 0 rfl rfl 1 (by decide) tw_83 rfl rfl (by decide +kernel) rfl rfl (Nat.le_of_ble_eq_true rfl) rfl dX2_init_21 ?_
  refine r_aload0 C dX2_init_24 rfl ?_
  refine r_new (ci := 1) (fs := [.null, .int 0, .int 0]) C A inX1 tyX1_ok tw_80 tw_58 tw_37 rfl (by decide) (Nat.le_of_ble_eq_true rfl) (Nat.le_of_ble_eq_true rfl) dX2_init_25 (fun q3 => ?_)
  refine r_dup C dX2_init_28 ?_
  refine r_ctor (host := "PolicyComparer") (rm := { frames := 1, cells := 1, slots := 25, locals := 20 }) (mc := 1) (ms := 25) (T1 := [(a, .inr (2, [.ref q0, .ref q1, .null, .null, .int 0, .int 0])), (q0, .inl (gC G, 240, .inl (fun _ => 0))), (q1, .inr (1, [.ref (u2.getD 0 0), .int 0, .int 0])), ((u2.getD 0 0), .inl (gI G, 25, .inl (fun _ => 0)))]) C A (n_X1_init l G hO (X ++ [(a, .inr (2, [.ref q0, .ref q1, .null, .null, .int 0, .int 0])), (q0, .inl (gC G, 240, .inl (fun _ => 0))), (q1, .inr (1, [.ref (u2.getD 0 0), .int 0, .int 0])), ((u2.getD 0 0), .inl (gI G, 25, .inl (fun _ => 0)))]) q3) rfl tw_61 tw_37 (by decide +kernel) rfl tw_60 (fun h => h.2.2.2.2.2.2.2.2.2.2.2.2.2) rfl rfl ⟨Nat.le_of_ble_eq_true rfl, Nat.le_of_ble_eq_true rfl⟩ (Nat.le_of_ble_eq_true rfl) dX2_init_29 ⟨Nat.le_of_ble_eq_true rfl, Nat.le_of_ble_eq_true rfl⟩ (fun u4 => ?_)
  refine r_putF (ty := (.object "PolicyComparer$Policy")) (T2 := [(a, .inr (2, [.ref q0, .ref q1, .ref q3, .null, .int 0, .int 0])), (q0, .inl (gC G, 240, .inl (fun _ => 0))), (q1, .inr (1, [.ref (u2.getD 0 0), .int 0, .int 0])), ((u2.getD 0 0), .inl (gI G, 25, .inl (fun _ => 0))), (q3, .inr (1, [.ref (u4.getD 0 0), .int 0, .int 0])), ((u4.getD 0 0), .inl (gI G, 25, .inl (fun _ => 0)))]) C hnm inX2 tyX2_ok nmX2 0 rfl rfl 2 (by decide) tw_84 rfl rfl (by decide +kernel) rfl rfl (Nat.le_of_ble_eq_true rfl) rfl dX2_init_32 ?_
  refine r_aload0 C dX2_init_35 rfl ?_
  refine r_aload0 C dX2_init_36 rfl ?_
  refine r_get C inX2 0 rfl rfl 1 (by decide) tw_83 rfl dX2_init_37 ?_
  refine r_put (ty := (.object "PolicyComparer$Policy")) (T2 := [(a, .inr (2, [.ref q0, .ref q1, .ref q3, .ref q1, .int 0, .int 0])), (q0, .inl (gC G, 240, .inl (fun _ => 0))), (q1, .inr (1, [.ref (u2.getD 0 0), .int 0, .int 0])), ((u2.getD 0 0), .inl (gI G, 25, .inl (fun _ => 0))), (q3, .inr (1, [.ref (u4.getD 0 0), .int 0, .int 0])), ((u4.getD 0 0), .inl (gI G, 25, .inl (fun _ => 0)))]) C inX2 tyX2_ok nmX2 0 rfl rfl 3 (by decide) tw_85 rfl (by decide +kernel) rfl rfl (Nat.le_of_ble_eq_true rfl) rfl dX2_init_40 ?_
  refine r_aload0 C dX2_init_43 rfl ?_
  refine r_iconst C 0 dX2_init_44 rfl ?_
  refine r_put (ty := .int) (T2 := [(a, .inr (2, [.ref q0, .ref q1, .ref q3, .ref q1, .int 0, .int 0])), (q0, .inl (gC G, 240, .inl (fun _ => 0))), (q1, .inr (1, [.ref (u2.getD 0 0), .int 0, .int 0])), ((u2.getD 0 0), .inl (gI G, 25, .inl (fun _ => 0))), (q3, .inr (1, [.ref (u4.getD 0 0), .int 0, .int 0])), ((u4.getD 0 0), .inl (gI G, 25, .inl (fun _ => 0)))]) C inX2 tyX2_ok nmX2 0 rfl rfl 4 (by decide) tw_86 rfl (by decide +kernel) rfl rfl (Nat.le_of_ble_eq_true rfl) rfl dX2_init_45 ?_
  refine r_aload0 C dX2_init_48 rfl ?_
  refine r_iconst C 0 dX2_init_49 rfl ?_
  refine r_put (ty := .int) (T2 := [(a, .inr (2, [.ref q0, .ref q1, .ref q3, .ref q1, .int 0, .int 0])), (q0, .inl (gC G, 240, .inl (fun _ => 0))), (q1, .inr (1, [.ref (u2.getD 0 0), .int 0, .int 0])), ((u2.getD 0 0), .inl (gI G, 25, .inl (fun _ => 0))), (q3, .inr (1, [.ref (u4.getD 0 0), .int 0, .int 0])), ((u4.getD 0 0), .inl (gI G, 25, .inl (fun _ => 0)))]) C inX2 tyX2_ok nmX2 0 rfl rfl 5 (by decide) tw_87 rfl (by decide +kernel) rfl rfl (Nat.le_of_ble_eq_true rfl) rfl dX2_init_50 ?_
  exact r_vret C hr hlk [q0, q1, (u2.getD 0 0), q3, (u4.getD 0 0)] rfl dX2_init_53
