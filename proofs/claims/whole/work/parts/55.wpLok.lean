theorem wpL_ok {L : Nat} {xs : Nat → Int32} {st : St} (hL : L ≤ 2560) (hI : Inv st) : wp_L L xs st := by
  intro P18 h18
  have key : ∀ d i st, i ≤ 2560 → L ≤ i + d → Inv st → P18 (nI i) st := by
    intro d
    induction d with
    | zero =>
      intro i st hi hd hI
      refine h18 _ _ ⟨fun _ => trivial, fun c => absurd ?_ c⟩
      rw [Int32.lt_iff_toInt_lt, show (5 : Int32) = nI 5 from rfl, pk_sub_toInt (by omega) (by omega), nI_toInt (by omega)]
      omega
    | succ d ih =>
      intro i st hi hd hI
      by_cases q : L < i + 5
      · refine h18 _ _ ⟨fun _ => trivial, fun c => absurd ?_ c⟩
        rw [Int32.lt_iff_toInt_lt, show (5 : Int32) = nI 5 from rfl, pk_sub_toInt (by omega) (by omega), nI_toInt (by omega)]
        omega
      have nx : ∀ s, Inv s → ∀ y, y = nI i + 5 → P18 y s := by
        intro s hs y hy
        rw [hy, show nI i + (5 : Int32) = nI (i + 5) from nI_add i 5]
        exact ih (i + 5) s (by omega) (by omega) hs
      have fin : ∀ (r1 r2 : Int32) (s : St), (r1 = r2 ∧ Inv s) → (r1 = r2 → ∀ y, y = nI i + 5 → P18 y s) ∧ (¬ r1 = r2 → False) := fun r1 r2 s e => ⟨fun _ => nx s e.2, fun n => n e.1⟩
      have v1 : vp_in (nI i + (1 : Int32)) L := by rw [show nI i + (1 : Int32) = nI (i + 1) from nI_add i 1]; exact vp_in_nI (by omega) (by omega)
      have v2 : vp_in (nI i + (2 : Int32)) L := by rw [show nI i + (2 : Int32) = nI (i + 2) from nI_add i 2]; exact vp_in_nI (by omega) (by omega)
      have v3 : vp_in (nI i + (3 : Int32)) L := by rw [show nI i + (3 : Int32) = nI (i + 3) from nI_add i 3]; exact vp_in_nI (by omega) (by omega)
      have v4 : vp_in (nI i + (4 : Int32)) L := by rw [show nI i + (4 : Int32) = nI (i + 4) from nI_add i 4]; exact vp_in_nI (by omega) (by omega)
      refine h18 _ _ ⟨fun _ => trivial, fun _ => ⟨vp_in_nI (by omega) (by omega), fun _ => ⟨v1, mono_X4_append (fun r1 s1 b => ⟨v1, mono_X5_append (fun r2 s2 e => fin r1 r2 s2 e) b⟩) (st_append hI _)⟩,
        fun _ => mono_X4_clearText (fun r1 s1 b => mono_X5_clearText (fun r2 s2 e => fin r1 r2 s2 e) b) (st_clearText hI),
        fun _ => mono_X4_syntaxError (fun r1 s1 b => mono_X5_syntaxError (fun r2 s2 e => fin r1 r2 s2 e) b) (st_syntaxError hI),
        fun _ => mono_X4_load (fun r1 s1 b => mono_X5_load (fun r2 s2 e => fin r1 r2 s2 e) b) (st_load hI),
        fun _ => ⟨v1, v2, v3, mono_X4_addRule (fun r1 s1 b => ⟨v1, v2, v3, mono_X5_addRule (fun r2 s2 e => fin r1 r2 s2 e) b⟩) (st_addRule hI _ _ _)⟩,
        fun _ => ⟨v1, v2, mono_X4_removeRule (fun r1 s1 b => ⟨v1, v2, mono_X5_removeRule (fun r2 s2 e => fin r1 r2 s2 e) b⟩) (st_removeRule hI _ _)⟩,
        fun _ => ⟨v1, v2, v3, mono_X4_moveRule (fun r1 s1 b => ⟨v1, v2, v3, mono_X5_moveRule (fun r2 s2 e => fin r1 r2 s2 e) b⟩) (st_moveRule hI _ _ _)⟩,
        fun _ => ⟨v1, v2, mono_X4_setAlgorithm (fun r1 s1 b => ⟨v1, v2, mono_X5_setAlgorithm (fun r2 s2 e => fin r1 r2 s2 e) b⟩) (st_setAlgorithm hI _ _)⟩,
        fun _ => ⟨v1, v2, v3, v4, mono_X4_setTarget (fun r1 s1 b => ⟨v1, v2, v3, v4, mono_X5_setTarget (fun r2 s2 e => fin r1 r2 s2 e) b⟩) (st_setTarget hI _ _ _ _)⟩,
        fun _ => ⟨v1, v2, mono_X4_flipEffect (fun r1 s1 b => ⟨v1, v2, mono_X5_flipEffect (fun r2 s2 e => fin r1 r2 s2 e) b⟩) (st_flipEffect hI _ _)⟩,
        fun _ => mono_X4_copyOldToNew (fun r1 s1 b => mono_X5_copyOldToNew (fun r2 s2 e => fin r1 r2 s2 e) b) (st_copyOldToNew hI),
        fun _ => mono_X4_undo (fun r1 s1 b => mono_X5_undo (fun r2 s2 e => fin r1 r2 s2 e) b) (st_undo hI),
        fun _ => ⟨v1, mono_X4_ruleCount (fun r1 s1 b => ⟨v1, mono_X5_ruleCount (fun r2 s2 e => fin r1 r2 s2 e) b⟩) (st_ruleCount hI _)⟩,
        fun _ => ⟨v1, v2, mono_X4_effectOf (fun r1 s1 b => ⟨v1, v2, mono_X5_effectOf (fun r2 s2 e => fin r1 r2 s2 e) b⟩) (st_effectOf hI _ _)⟩,
        fun _ => ⟨v1, v2, v3, mono_X4_targetOf (fun r1 s1 b => ⟨v1, v2, v3, mono_X5_targetOf (fun r2 s2 e => fin r1 r2 s2 e) b⟩) (st_targetOf hI _ _ _)⟩,
        fun _ => ⟨v1, mono_X4_algorithmOf (fun r1 s1 b => ⟨v1, mono_X5_algorithmOf (fun r2 s2 e => fin r1 r2 s2 e) b⟩) (st_algorithmOf hI _)⟩,
        fun _ => ⟨v1, v2, mono_X4_decide (fun r1 s1 b => ⟨v1, v2, mono_X5_decide (fun r2 s2 e => fin r1 r2 s2 e) b⟩) (st_decide hI _ _)⟩,
        fun _ => ⟨v1, v2, mono_X4_decisionCount (fun r1 s1 b => ⟨v1, v2, mono_X5_decisionCount (fun r2 s2 e => fin r1 r2 s2 e) b⟩) (st_decisionCount hI _ _)⟩,
        fun _ => ⟨v1, v2, mono_X4_applicableRules (fun r1 s1 b => ⟨v1, v2, mono_X5_applicableRules (fun r2 s2 e => fin r1 r2 s2 e) b⟩) (st_applicableRules hI _ _)⟩,
        fun _ => mono_X4_gainCount (fun r1 s1 b => mono_X5_gainCount (fun r2 s2 e => fin r1 r2 s2 e) b) (st_gainCount hI),
        fun _ => mono_X4_lossCount (fun r1 s1 b => mono_X5_lossCount (fun r2 s2 e => fin r1 r2 s2 e) b) (st_lossCount hI),
        fun _ => ⟨v1, v2, mono_X4_gainCountOf (fun r1 s1 b => ⟨v1, v2, mono_X5_gainCountOf (fun r2 s2 e => fin r1 r2 s2 e) b⟩) (st_gainCountOf hI _ _)⟩,
        fun _ => ⟨v1, mono_X4_nextGain (fun r1 s1 b => ⟨v1, mono_X5_nextGain (fun r2 s2 e => fin r1 r2 s2 e) b⟩) (st_nextGain hI _)⟩,
        fun _ => ⟨v1, mono_X4_nextLoss (fun r1 s1 b => ⟨v1, mono_X5_nextLoss (fun r2 s2 e => fin r1 r2 s2 e) b⟩) (st_nextLoss hI _)⟩,
        fun _ => ⟨v1, v2, mono_X4_transitionCount (fun r1 s1 b => ⟨v1, v2, mono_X5_transitionCount (fun r2 s2 e => fin r1 r2 s2 e) b⟩) (st_transitionCount hI _ _)⟩,
        fun _ => ⟨v1, mono_X4_grantedShareBits (fun r1 s1 b => ⟨v1, mono_X5_grantedShareBits (fun r2 s2 e => fin r1 r2 s2 e) b⟩) (st_grantedShareBits hI _)⟩,
        fun _ => ⟨v1, v2, mono_X4_isRedundant (fun r1 s1 b => ⟨v1, v2, mono_X5_isRedundant (fun r2 s2 e => fin r1 r2 s2 e) b⟩) (st_isRedundant hI _ _)⟩,
        fun _ => ⟨v1, v2, mono_X4_witness (fun r1 s1 b => ⟨v1, v2, mono_X5_witness (fun r2 s2 e => fin r1 r2 s2 e) b⟩) (st_witness hI _ _)⟩,
        fun _ => ⟨v1, mono_X4_irredundantCore (fun r1 s1 b => ⟨v1, mono_X5_irredundantCore (fun r2 s2 e => fin r1 r2 s2 e) b⟩) (st_irredundantCore hI _)⟩,
        fun _ => mono_X4_leastRemoval (fun r1 s1 b => mono_X5_leastRemoval (fun r2 s2 e => fin r1 r2 s2 e) b) (st_leastRemoval hI),
        fun _ => mono_X4_historySize (fun r1 s1 b => mono_X5_historySize (fun r2 s2 e => fin r1 r2 s2 e) b) (st_historySize hI),
        fun _ => nx st hI⟩⟩
  exact key L 0 st (by omega) (by omega) hI
