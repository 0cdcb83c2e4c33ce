theorem tw_136 : Cond.methodLink RX4 42 yJ0_length_8abf5 ∈ tblG := tblG_in 136 (by decide +kernel) rfl
theorem tw_146 : Cond.methodLink RX4 48 yJ0_charAt_5068e ∈ tblG := tblG_in 146 (by decide +kernel) rfl
theorem tw_615 : Cond.methodLink RX5 34 yX5_sets ∈ tblG := tblG_in 615 (by decide +kernel) rfl
def wp_X4_initT (st : St) (Q : St → Prop) : Prop :=
  ∀ (P61 : Int32 → St → Prop), 
  (∀ (x1 : Int32) (st : St), (wp_J0_length_8abf5 0 st (fun r_2 s_1 => (r_2 ≤ x1 → (wp_X2_firstMalformed s_1 (fun r_4 s_3 => (r_4 = (-4 : Int32) → (wp_X4_takeDrafts s_3 (fun s_6 => wp_X2_empty s_6 (fun s_7 => Q s_7)))) ∧ (¬ r_4 = (-4 : Int32) → (wp_X2_empty s_3 (fun s_5 => Q s_5)))))) ∧ (¬ r_2 ≤ x1 → (wp_J0_charAt_5068e 0 x1 s_1 (fun r_10 s_9 => wp_X2_add r_10 s_9 (fun r_12 s_11 => ∀ x1_13 : Int32, x1_13 = x1 + (1 : Int32) → P61 x1_13 s_11)))))) → P61 x1 st) →
  P61 (0 : Int32) st
def wp_X5_initT (st : St) (Q : St → Prop) : Prop :=
  wp_X5_clears st (fun s_1 => vp_in (0 : Int32) 84 ∧ (vp_in (1 : Int32) 84 ∧ (wp_X5_sets (0 : Int32) (0 : Int32) (0 : Int32) (3 : Int32) (15 : Int32) (15 : Int32) (15 : Int32) (up2 (up2 s_1 20 (0 : Int32).toNatClampNeg (2 : Int32)) 20 (1 : Int32).toNatClampNeg (1 : Int32)) (fun s_2 => wp_X5_sets (0 : Int32) (1 : Int32) (1 : Int32) (255 : Int32) (8 : Int32) (255 : Int32) (15 : Int32) s_2 (fun s_3 => vp_in (42 : Int32) 84 ∧ (vp_in (43 : Int32) 84 ∧ (wp_X5_sets (1 : Int32) (0 : Int32) (0 : Int32) (7 : Int32) (15 : Int32) (15 : Int32) (15 : Int32) (up2 (up2 s_3 20 (42 : Int32).toNatClampNeg (3 : Int32)) 20 (43 : Int32).toNatClampNeg (0 : Int32)) (fun s_4 => wp_X5_sets (1 : Int32) (1 : Int32) (1 : Int32) (255 : Int32) (8 : Int32) (255 : Int32) (3 : Int32) s_4 (fun s_5 => wp_X5_sets (1 : Int32) (2 : Int32) (0 : Int32) (1 : Int32) (15 : Int32) (255 : Int32) (15 : Int32) s_5 (fun s_6 => wp_X5_takes s_6 (fun s_7 => Q s_7)))))))))))
set_option maxHeartbeats 4000000 in
set_option maxRecDepth 100000 in
theorem t_X4_initT (l : Launch) (G : Gp) (hO : gOK G) (hwin : ∀ k, 0 ≤ k → k < 17 → k ∈ gks G) {p : Program} {e : Env} {s : State} {m : MethodId} {args : Array Value} {below : List Frame} {meth : Method} {c : Code} {Qs : State → Prop} (C : Cx p s m args c cX4_init 2 RX4 G 0 17) {st : St} {Q : St → Prop} (hret : ∀ (lv : List (Nat × Value)) (st : St), Q st → WG p l e ({ frames := 8, cells := 16, slots := 988, locals := 175 } : Room) s m args below meth c 16 988 Qs G 2 113 lv [] st) (hw : wp_X4_initT st Q) : WG p l e ({ frames := 8, cells := 16, slots := 988, locals := 175 } : Room) s m args below meth c 16 988 Qs G 2 59 [(0, .ref (gh G 0))] [] st := by
  unfold wp_X4_initT at hw
  obtain ⟨P61, hP61⟩ : ∃ P : Int32 → St → Prop, P = fun x1 st => WG p l e ({ frames := 8, cells := 16, slots := 988, locals := 175 } : Room) s m args below meth c 16 988 Qs G 2 61 [(0, .ref (gh G 0)), (1, .int x1)] [] st := ⟨_, rfl⟩
  replace hw := hw P61
  replace hw := hw (by
    intro x1 st hw
    rw [hP61]
    refine g_iload_n C 1 dX4_init_61 rfl rfl ?_
    refine g_ldcS C 0 (by decide) rfl rfl dX4_init_62 ?_
    refine g_callVi C (c_J0_length_8abf5 l G hO hwin (by decide) hw) kJ0_length_8abf5 tw_136 (Rv.str C (by decide)) rfl rfl ⟨Nat.le_of_ble_eq_true rfl, Nat.le_of_ble_eq_true rfl⟩ (As := []) (rest := [.int x1]) rfl rfl (Nat.le_of_ble_eq_true rfl) dX4_init_64 ⟨Nat.le_of_ble_eq_true rfl, Nat.le_of_ble_eq_true rfl⟩ (fun r_2 s_1 hw => ?_)
    refine g_icmp_ge C 90 dX4_init_67 (by decide) (fun c_14 => ?_) (fun c_14 => ?_)
    · replace hw := hw.1 c_14
      refine g_aload_n C 0 dX4_init_90 rfl rfl ?_
      refine g_get C inX4 (C.win (by decide) (by decide)) rfl rfl 2 (by decide) tw_291 rfl dX4_init_91 ?_
      refine g_callVi C (c_X2_firstMalformed l G hO hwin hw) kX2_firstMalformed tw_188 (Rv.of C (C.win (by decide) (by decide)) rfl (ci := 2) rfl) rfl rfl ⟨Nat.le_of_ble_eq_true rfl, Nat.le_of_ble_eq_true rfl⟩ (As := []) (rest := []) rfl rfl (Nat.le_of_ble_eq_true rfl) dX4_init_94 ⟨Nat.le_of_ble_eq_true rfl, Nat.le_of_ble_eq_true rfl⟩ (fun r_4 s_3 hw => ?_)
      refine g_bipush C (-4 : Int32) dX4_init_97 (by decide) ?_
      refine g_icmp_ne C 106 dX4_init_99 (by decide) (fun c_8 => ?_) (fun c_8 => ?_)
      · replace hw := hw.2 c_8
        refine g_aload_n C 0 dX4_init_106 rfl rfl ?_
        refine g_get C inX4 (C.win (by decide) (by decide)) rfl rfl 2 (by decide) tw_291 rfl dX4_init_107 ?_
        refine g_callVv C (c_X2_empty l G hO hwin hw) kX2_empty tw_285 (Rv.of C (C.win (by decide) (by decide)) rfl (ci := 2) rfl) rfl rfl ⟨Nat.le_of_ble_eq_true rfl, Nat.le_of_ble_eq_true rfl⟩ (As := []) (rest := []) rfl rfl (Nat.le_of_ble_eq_true rfl) dX4_init_110 ⟨Nat.le_of_ble_eq_true rfl, Nat.le_of_ble_eq_true rfl⟩ (fun s_5 hw => ?_)
        exact hret _ _ hw
      · replace hw := hw.1 c_8
        refine g_aload_n C 0 dX4_init_102 rfl rfl ?_
        refine g_callVv C (c_X4_takeDrafts l G hO hwin hw) kX4_takeDrafts tw_266 (Rv.of C (C.win (by decide) (by decide)) rfl (ci := 4) rfl) rfl rfl ⟨Nat.le_of_ble_eq_true rfl, Nat.le_of_ble_eq_true rfl⟩ (As := []) (rest := []) rfl rfl (Nat.le_of_ble_eq_true rfl) dX4_init_103 ⟨Nat.le_of_ble_eq_true rfl, Nat.le_of_ble_eq_true rfl⟩ (fun s_6 hw => ?_)
        refine g_aload_n C 0 dX4_init_106 rfl rfl ?_
        refine g_get C inX4 (C.win (by decide) (by decide)) rfl rfl 2 (by decide) tw_291 rfl dX4_init_107 ?_
        refine g_callVv C (c_X2_empty l G hO hwin hw) kX2_empty tw_285 (Rv.of C (C.win (by decide) (by decide)) rfl (ci := 2) rfl) rfl rfl ⟨Nat.le_of_ble_eq_true rfl, Nat.le_of_ble_eq_true rfl⟩ (As := []) (rest := []) rfl rfl (Nat.le_of_ble_eq_true rfl) dX4_init_110 ⟨Nat.le_of_ble_eq_true rfl, Nat.le_of_ble_eq_true rfl⟩ (fun s_7 hw => ?_)
        exact hret _ _ hw
    · replace hw := hw.2 c_14
      refine g_aload_n C 0 dX4_init_70 rfl rfl ?_
      refine g_get C inX4 (C.win (by decide) (by decide)) rfl rfl 2 (by decide) tw_291 rfl dX4_init_71 ?_
      refine g_ldcS C 0 (by decide) rfl rfl dX4_init_74 ?_
      refine g_iload_n C 1 dX4_init_76 rfl rfl ?_
      refine g_callVi C (c_J0_charAt_5068e l G hO hwin (by decide) hw) kJ0_charAt_5068e tw_146 (Rv.str C (by decide)) rfl rfl ⟨Nat.le_of_ble_eq_true rfl, Nat.le_of_ble_eq_true rfl⟩ (As := [.int x1]) (rest := [.ref (gh G 5)]) rfl rfl (Nat.le_of_ble_eq_true rfl) dX4_init_77 ⟨Nat.le_of_ble_eq_true rfl, Nat.le_of_ble_eq_true rfl⟩ (fun r_10 s_9 hw => ?_)
      refine g_callVi C (c_X2_add l G hO hwin hw) kX2_add tw_184 (Rv.of C (C.win (by decide) (by decide)) rfl (ci := 2) rfl) rfl rfl ⟨Nat.le_of_ble_eq_true rfl, Nat.le_of_ble_eq_true rfl⟩ (As := [.int r_10]) (rest := []) rfl rfl (Nat.le_of_ble_eq_true rfl) dX4_init_80 ⟨Nat.le_of_ble_eq_true rfl, Nat.le_of_ble_eq_true rfl⟩ (fun r_12 s_11 hw => ?_)
      refine g_pop C dX4_init_83 rfl ?_
      obtain ⟨x1_13, ex1_13⟩ : ∃ z : Int32, z = x1 + (1 : Int32) := ⟨_, rfl⟩
      replace hw := hw x1_13 ex1_13
      refine g_iinc C x1_13 1 dX4_init_84 rfl ex1_13.symm (by decide) (lv' := [(1, .int x1_13), (0, .ref (gh G 0))]) rfl ?_
      refine g_goto C 61 dX4_init_87 (by decide) ?_
      rw [hP61] at hw
      exact g_perm [1, 0] rfl (hw))
  refine g_iconst C (0 : Int32) dX4_init_59 (by decide) ?_
  refine g_istore_n C dX4_init_60 rfl (by decide) (lv' := [(1, .int (0 : Int32)), (0, .ref (gh G 0))]) rfl ?_
  rw [hP61] at hw
  exact g_perm [1, 0] rfl (hw)
set_option maxHeartbeats 4000000 in
set_option maxRecDepth 100000 in
theorem t_X5_initT (l : Launch) (G : Gp) (hO : gOK G) (hwin : ∀ k, 17 ≤ k → k < 25 → k ∈ gks G) {p : Program} {e : Env} {s : State} {m : MethodId} {args : Array Value} {below : List Frame} {meth : Method} {c : Code} {Qs : State → Prop} (C : Cx p s m args c cX5_init 1 RX5 G 17 25) {st : St} {Q : St → Prop} (hret : ∀ (lv : List (Nat × Value)) (st : St), Q st → WG p l e ({ frames := 1, cells := 7, slots := 2797, locals := 28 } : Room) s m args below meth c 7 2797 Qs G 1 178 lv [] st) (hw : wp_X5_initT st Q) : WG p l e ({ frames := 1, cells := 7, slots := 2797, locals := 28 } : Room) s m args below meth c 7 2797 Qs G 1 63 [(0, .ref (gh G 17))] [] st := by
  unfold wp_X5_initT at hw
  refine g_aload_n C 0 dX5_init_63 rfl rfl ?_
  refine g_callVv C (c_X5_clears l G hO hwin hw) kX5_clears tw_611 (Rv.of C (C.win (by decide) (by decide)) rfl (ci := 5) rfl) rfl rfl ⟨Nat.le_of_ble_eq_true rfl, Nat.le_of_ble_eq_true rfl⟩ (As := []) (rest := []) rfl rfl (Nat.le_of_ble_eq_true rfl) dX5_init_64 ⟨Nat.le_of_ble_eq_true rfl, Nat.le_of_ble_eq_true rfl⟩ (fun s_1 hw => ?_)
  refine g_aload_n C 0 dX5_init_67 rfl rfl ?_
  refine g_get C inX5 (C.win (by decide) (by decide)) rfl rfl 3 (by decide) tw_626 rfl dX5_init_68 ?_
  refine g_iconst C (0 : Int32) dX5_init_71 (by decide) ?_
  refine g_iconst C (2 : Int32) dX5_init_72 (by decide) ?_
  refine g_iast C (C.win (by decide) (by decide)) (fun _ => rfl) hw.1 dX5_init_73 ?_
  replace hw := hw.2
  refine g_aload_n C 0 dX5_init_74 rfl rfl ?_
  refine g_get C inX5 (C.win (by decide) (by decide)) rfl rfl 3 (by decide) tw_626 rfl dX5_init_75 ?_
  refine g_iconst C (1 : Int32) dX5_init_78 (by decide) ?_
  refine g_iconst C (1 : Int32) dX5_init_79 (by decide) ?_
  refine g_iast C (C.win (by decide) (by decide)) (fun _ => rfl) hw.1 dX5_init_80 ?_
  replace hw := hw.2
  refine g_aload_n C 0 dX5_init_81 rfl rfl ?_
  refine g_iconst C (0 : Int32) dX5_init_82 (by decide) ?_
  refine g_iconst C (0 : Int32) dX5_init_83 (by decide) ?_
  refine g_iconst C (0 : Int32) dX5_init_84 (by decide) ?_
  refine g_iconst C (3 : Int32) dX5_init_85 (by decide) ?_
  refine g_bipush C (15 : Int32) dX5_init_86 (by decide) ?_
  refine g_bipush C (15 : Int32) dX5_init_88 (by decide) ?_
  refine g_bipush C (15 : Int32) dX5_init_90 (by decide) ?_
  refine g_callVv C (c_X5_sets l G hO hwin hw) kX5_sets tw_615 (Rv.of C (C.win (by decide) (by decide)) rfl (ci := 5) rfl) rfl rfl ⟨Nat.le_of_ble_eq_true rfl, Nat.le_of_ble_eq_true rfl⟩ (As := [.int (0 : Int32), .int (0 : Int32), .int (0 : Int32), .int (3 : Int32), .int (15 : Int32), .int (15 : Int32), .int (15 : Int32)]) (rest := []) rfl rfl (Nat.le_of_ble_eq_true rfl) dX5_init_92 ⟨Nat.le_of_ble_eq_true rfl, Nat.le_of_ble_eq_true rfl⟩ (fun s_2 hw => ?_)
  refine g_aload_n C 0 dX5_init_95 rfl rfl ?_
  refine g_iconst C (0 : Int32) dX5_init_96 (by decide) ?_
  refine g_iconst C (1 : Int32) dX5_init_97 (by decide) ?_
  refine g_iconst C (1 : Int32) dX5_init_98 (by decide) ?_
  refine g_sipush C (255 : Int32) dX5_init_99 (by decide) ?_
  refine g_bipush C (8 : Int32) dX5_init_102 (by decide) ?_
  refine g_sipush C (255 : Int32) dX5_init_104 (by decide) ?_
  refine g_bipush C (15 : Int32) dX5_init_107 (by decide) ?_
  refine g_callVv C (c_X5_sets l G hO hwin hw) kX5_sets tw_615 (Rv.of C (C.win (by decide) (by decide)) rfl (ci := 5) rfl) rfl rfl ⟨Nat.le_of_ble_eq_true rfl, Nat.le_of_ble_eq_true rfl⟩ (As := [.int (0 : Int32), .int (1 : Int32), .int (1 : Int32), .int (255 : Int32), .int (8 : Int32), .int (255 : Int32), .int (15 : Int32)]) (rest := []) rfl rfl (Nat.le_of_ble_eq_true rfl) dX5_init_109 ⟨Nat.le_of_ble_eq_true rfl, Nat.le_of_ble_eq_true rfl⟩ (fun s_3 hw => ?_)
  refine g_aload_n C 0 dX5_init_112 rfl rfl ?_
  refine g_get C inX5 (C.win (by decide) (by decide)) rfl rfl 3 (by decide) tw_626 rfl dX5_init_113 ?_
  refine g_bipush C (42 : Int32) dX5_init_116 (by decide) ?_
  refine g_iconst C (3 : Int32) dX5_init_118 (by decide) ?_
  refine g_iast C (C.win (by decide) (by decide)) (fun _ => rfl) hw.1 dX5_init_119 ?_
  replace hw := hw.2
  refine g_aload_n C 0 dX5_init_120 rfl rfl ?_
  refine g_get C inX5 (C.win (by decide) (by decide)) rfl rfl 3 (by decide) tw_626 rfl dX5_init_121 ?_
  refine g_bipush C (43 : Int32) dX5_init_124 (by decide) ?_
  refine g_iconst C (0 : Int32) dX5_init_126 (by decide) ?_
  refine g_iast C (C.win (by decide) (by decide)) (fun _ => rfl) hw.1 dX5_init_127 ?_
  replace hw := hw.2
  refine g_aload_n C 0 dX5_init_128 rfl rfl ?_
  refine g_iconst C (1 : Int32) dX5_init_129 (by decide) ?_
  refine g_iconst C (0 : Int32) dX5_init_130 (by decide) ?_
  refine g_iconst C (0 : Int32) dX5_init_131 (by decide) ?_
  refine g_bipush C (7 : Int32) dX5_init_132 (by decide) ?_
  refine g_bipush C (15 : Int32) dX5_init_134 (by decide) ?_
  refine g_bipush C (15 : Int32) dX5_init_136 (by decide) ?_
  refine g_bipush C (15 : Int32) dX5_init_138 (by decide) ?_
  refine g_callVv C (c_X5_sets l G hO hwin hw) kX5_sets tw_615 (Rv.of C (C.win (by decide) (by decide)) rfl (ci := 5) rfl) rfl rfl ⟨Nat.le_of_ble_eq_true rfl, Nat.le_of_ble_eq_true rfl⟩ (As := [.int (1 : Int32), .int (0 : Int32), .int (0 : Int32), .int (7 : Int32), .int (15 : Int32), .int (15 : Int32), .int (15 : Int32)]) (rest := []) rfl rfl (Nat.le_of_ble_eq_true rfl) dX5_init_140 ⟨Nat.le_of_ble_eq_true rfl, Nat.le_of_ble_eq_true rfl⟩ (fun s_4 hw => ?_)
  refine g_aload_n C 0 dX5_init_143 rfl rfl ?_
  refine g_iconst C (1 : Int32) dX5_init_144 (by decide) ?_
  refine g_iconst C (1 : Int32) dX5_init_145 (by decide) ?_
  refine g_iconst C (1 : Int32) dX5_init_146 (by decide) ?_
  refine g_sipush C (255 : Int32) dX5_init_147 (by decide) ?_
  refine g_bipush C (8 : Int32) dX5_init_150 (by decide) ?_
  refine g_sipush C (255 : Int32) dX5_init_152 (by decide) ?_
  refine g_iconst C (3 : Int32) dX5_init_155 (by decide) ?_
  refine g_callVv C (c_X5_sets l G hO hwin hw) kX5_sets tw_615 (Rv.of C (C.win (by decide) (by decide)) rfl (ci := 5) rfl) rfl rfl ⟨Nat.le_of_ble_eq_true rfl, Nat.le_of_ble_eq_true rfl⟩ (As := [.int (1 : Int32), .int (1 : Int32), .int (1 : Int32), .int (255 : Int32), .int (8 : Int32), .int (255 : Int32), .int (3 : Int32)]) (rest := []) rfl rfl (Nat.le_of_ble_eq_true rfl) dX5_init_156 ⟨Nat.le_of_ble_eq_true rfl, Nat.le_of_ble_eq_true rfl⟩ (fun s_5 hw => ?_)
  refine g_aload_n C 0 dX5_init_159 rfl rfl ?_
  refine g_iconst C (1 : Int32) dX5_init_160 (by decide) ?_
  refine g_iconst C (2 : Int32) dX5_init_161 (by decide) ?_
  refine g_iconst C (0 : Int32) dX5_init_162 (by decide) ?_
  refine g_iconst C (1 : Int32) dX5_init_163 (by decide) ?_
  refine g_bipush C (15 : Int32) dX5_init_164 (by decide) ?_
  refine g_sipush C (255 : Int32) dX5_init_166 (by decide) ?_
  refine g_bipush C (15 : Int32) dX5_init_169 (by decide) ?_
  refine g_callVv C (c_X5_sets l G hO hwin hw) kX5_sets tw_615 (Rv.of C (C.win (by decide) (by decide)) rfl (ci := 5) rfl) rfl rfl ⟨Nat.le_of_ble_eq_true rfl, Nat.le_of_ble_eq_true rfl⟩ (As := [.int (1 : Int32), .int (2 : Int32), .int (0 : Int32), .int (1 : Int32), .int (15 : Int32), .int (255 : Int32), .int (15 : Int32)]) (rest := []) rfl rfl (Nat.le_of_ble_eq_true rfl) dX5_init_171 ⟨Nat.le_of_ble_eq_true rfl, Nat.le_of_ble_eq_true rfl⟩ (fun s_6 hw => ?_)
  refine g_aload_n C 0 dX5_init_174 rfl rfl ?_
  refine g_callVv C (c_X5_takes l G hO hwin hw) kX5_takes tw_619 (Rv.of C (C.win (by decide) (by decide)) rfl (ci := 5) rfl) rfl rfl ⟨Nat.le_of_ble_eq_true rfl, Nat.le_of_ble_eq_true rfl⟩ (As := []) (rest := []) rfl rfl (Nat.le_of_ble_eq_true rfl) dX5_init_175 ⟨Nat.le_of_ble_eq_true rfl, Nat.le_of_ble_eq_true rfl⟩ (fun s_7 hw => ?_)
  exact hret _ _ hw
