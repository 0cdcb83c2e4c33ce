theorem st_removeRule {st : St} (hI : Inv st) (x y : Int32) : wp_X4_removeRule x y st (fun r1 s1 => wp_X5_removeRule x y s1 (fun r2 s2 => r1 = r2 ∧ Inv s2)) := by
  obtain ⟨A, ho, hC, hM⟩ := id hI
  rcases rule_or ho x y with hb | ⟨p, n, r, hp, rfl, rfl, hr⟩
  · exact C_isR0 hC hb (g0 (M_isR0 hM ho hb (g0 ⟨rfl, hI⟩)))
  · have hP := ho.2.2.1 p hp
    have hi := ltl hr
    have hl := hP.2.1
    refine C_isR1 hC ho hp hi (g1 (C_pn hp (s_remember (pc_pol hp) hC.2.2 (hC.2.1 p hp) (fun s1 f1 h1 => ?_))))
    have hP1 : CPs s1 (2 * p + 1) (A.2.1 p) := (hC.2.1 p hp).congr (f1 _ (by omega) (by omega) (by omega)) (f1 _ (by omega) (by omega) (by omega))
    refine s_dropRule hP1 hl hi (fun s2 f2 h2 => ?_)
    obtain ⟨hC2, hf2⟩ := hC.edit hp f1 h1 f2 h2
    show wp_X5_removeRule (nI p) (nI n) s2 (fun r2 s3 => s2 (2 * p + 1) 1 = r2 ∧ Inv s3)
    have er : s2 (2 * p + 1) 1 = nI ((A.2.1 p).2.length - 1) := by rw [h2.1, show ((A.2.1 p).2.eraseIdx n).length = (A.2.1 p).2.length - 1 from List.length_eraseIdx_of_lt hi]
    rw [er]
    have hM2 : MS s2 A := hM.same hf2
    have eM2 : s2 19 (42 * p) = nI (A.2.1 p).2.length := (hM2.2.1 p hp).1
    refine M_isR1 hM2 ho hp hi (g1 (M_edit hM2 ho (fun s3 f3 e0 e5 hH => ?_)))
    have e19 : s3 19 = s2 19 := f3 19 (by decide) (by decide)
    intro P15 h15
    rw [m42, nI_clamp (by omega), e19, eM2, show nI (A.2.1 p).2.length - (1 : Int32) = nI ((A.2.1 p).2.length - 1) from pk_sub (b := 1) (by omega)]
    refine ⟨vp_in_nI (by omega) (by omega), vp_in_nI (by omega) (by omega), ?_⟩
    have lp : ∀ d k g src, k + d = (A.2.1 p).2.length - 1 → n ≤ k → RW g (upd (s2 19) (42 * p) (nI ((A.2.1 p).2.length - 1))) p src → (∀ j, j < 8 → src j = if n ≤ j ∧ j < k then j + 1 else j) → P15 (nI k) (upR s3 19 g) := by
      intro d
      induction d with
      | zero =>
        intro k g src hk hnk hg hsrc
        have hg0 : g (42 * p) = nI ((A.2.1 p).2.length - 1) := by rw [hg.2 _ (by omega), upd_at, if_pos rfl]
        refine h15 _ _ ?_
        rw [m42, nI_clamp (by omega), upR_at, if_pos rfl, hg0]
        refine ⟨vp_in_nI (by omega) (by omega), fun _ => ⟨vp_in_nI (by omega) (by omega), ?_⟩, fun c => absurd (nI_le (by omega) (by omega)) c⟩
        rw [upR_at, if_pos rfl, hg0]
        refine ⟨rfl, Inv.of2 (ho.set hp hP.del) hC2 (fun c hc => by rw [upR_ne _ _ (by omega), f3 c (by omega) (by omega)]) ?_⟩
        refine hM2.edit hp f3 e0 e5 hH (fun c a b => upR_ne _ _ a) ?_ (fun j hj => ?_) ho
        · rw [upR_self]
          refine (hM2.2.1 p hp).del hi hg0 ?_ (fun j c hj hc => ?_)
          · show g (42 * p + 1) = s2 19 (42 * p + 1)
            rw [hg.2 _ (by omega), upd_at, if_neg (by omega)]
          · show g (42 * p + (2 + 5 * j + c)) = s2 19 (42 * p + (2 + 5 * _ + c))
            rw [show 42 * p + (2 + 5 * j + c) = 42 * p + 2 + 5 * j + c by omega, hg.1 j c (by omega) hc, hsrc j (by omega), upd_at, if_neg (by omega)]
            congr 1
            by_cases q : j < n
            · rw [if_neg (by omega), if_pos q]; omega
            · rw [if_pos (by omega), if_neg q]; omega
        · rw [upR_self, hg.2 _ (by omega), upd_at, if_neg (by omega)]
      | succ d ih =>
        intro k g src hk hnk hg hsrc
        have hg0 : g (42 * p) = nI ((A.2.1 p).2.length - 1) := by rw [hg.2 _ (by omega), upd_at, if_pos rfl]
        refine h15 _ _ ?_
        rw [m42, nI_clamp (by omega), upR_at, if_pos rfl, hg0, a1]
        refine ⟨vp_in_nI (by omega) (by omega), fun c => absurd c (nI_ge (by omega) (by omega)), fun _ => M_copies hp (by omega) (by omega) (by omega) hg (fun g' hg' w hw => ?_)⟩
        rw [hw]
        refine ih (k + 1) g' _ (by omega) (by omega) hg' (fun j hj => ?_)
        show (if j = k then src (k + 1) else src j) = _
        by_cases q : j = k
        · rw [if_pos q, hsrc (k + 1) (by omega), if_neg (by omega), if_pos (by omega)]; omega
        · rw [if_neg q, hsrc j hj]
          by_cases q2 : n ≤ j ∧ j < k
          · rw [if_pos q2, if_pos (by omega)]
          · rw [if_neg q2, if_neg (by omega)]
    have h0 := lp ((A.2.1 p).2.length - 1 - n) n _ (fun j => j) (by omega) (Nat.le_refl _) (RW.rf _ _) (fun j hj => by rw [if_neg (by omega)])
    have e : up2 s3 19 (42 * p) (nI ((A.2.1 p).2.length - 1)) = upR s3 19 (upd (s2 19) (42 * p) (nI ((A.2.1 p).2.length - 1))) := by unfold up2; rw [e19]
    rw [e]
    exact h0
theorem st_setAlgorithm {st : St} (hI : Inv st) (x y : Int32) : wp_X4_setAlgorithm x y st (fun r1 s1 => wp_X5_setAlgorithm x y s1 (fun r2 s2 => r1 = r2 ∧ Inv s2)) := by
  obtain ⟨A, ho, hC, hM⟩ := id hI
  rcases bad_or x (n := 2) (by omega) with hb | ⟨p, hp, rfl⟩
  · exact C_isP0 hb (g0 (M_isP0 hb (g0 ⟨rfl, hI⟩)))
  · have hP := ho.2.2.1 p hp
    have hl := hP.2.1
    have ha := hP.1
    refine C_isP1 hp (g1 ?_)
    rcases bad_or y (n := 5) (by omega) with hb | ⟨a, ha2, rfl⟩
    · have hm : wp_X5_setAlgorithm (nI p) y st (fun r2 s2 => (-1 : Int32) = r2 ∧ Inv s2) := M_isP1 hp (g1 (M_in0 (n := 4) (by omega) hb (g0 ⟨rfl, hI⟩)))
      refine ⟨fun _ => hm, fun c => ⟨fun c2 => ?_, fun _ => hm⟩⟩
      rcases hb with q | q
      · exact absurd q c
      · exact absurd (bad_lt (n := 4) (by omega) q) (fun w => by
          have h1 := Int32.lt_iff_toInt_lt.mp w
          have h2 := Int32.le_iff_toInt_le.mp c2
          have h3 : (nI 4).toInt = (4 : Int32).toInt := rfl
          omega)
    · refine ⟨fun c => absurd c (nI_pos (by omega)), fun _ => ⟨fun _ => C_pn hp ?_, fun c => absurd (nI_le (b := 4) (by omega) (by omega)) c⟩⟩
      show (st (2 * p + 1) 2 = nI a → _) ∧ (¬ st (2 * p + 1) 2 = nI a → _)
      rw [(hC.2.1 p hp).2.1]
      have eM : ∀ s, MS s A → s 19 (42 * p + 1) = nI (A.2.1 p).1 := fun s h => (h.2.1 p hp).2.1
      refine ⟨fun c => ?_, fun c => ?_⟩
      · refine M_isP1 hp (g1 (M_in1 (n := 4) (by omega) (by omega) (g1 ?_)))
        rw [m42, a1, nI_clamp (by omega)]
        refine ⟨vp_in_nI (by omega) (by omega), fun w hw => ?_⟩
        rw [eM st hM] at hw
        rw [hw]
        exact ⟨fun _ => ⟨rfl, hI⟩, fun c2 => absurd c c2⟩
      · refine s_remember (pc_pol hp) hC.2.2 (hC.2.1 p hp) (fun s1 f1 h1 => ?_)
        have hP1 : CPs s1 (2 * p + 1) (A.2.1 p) := (hC.2.1 p hp).congr (f1 _ (by omega) (by omega) (by omega)) (f1 _ (by omega) (by omega) (by omega))
        refine s_use hP1 (fun s2 f2 h2 => ?_)
        obtain ⟨hC2, hf2⟩ := hC.edit hp f1 h1 f2 h2
        have hM2 : MS s2 A := hM.same hf2
        refine M_isP1 hp (g1 (M_in1 (n := 4) (by omega) (by omega) (g1 ?_)))
        rw [m42, a1, nI_clamp (by omega)]
        refine ⟨vp_in_nI (by omega) (by omega), fun w hw => ?_⟩
        rw [eM s2 hM2] at hw
        rw [hw]
        refine ⟨fun c2 => absurd c2 c, fun _ => M_edit hM2 ho (fun s3 f3 e0 e5 hH => ⟨vp_in_nI (by omega) (by omega), rfl, Inv.of2 (ho.set (P := (a, (A.2.1 p).2)) hp ⟨ha2, hP.2⟩) hC2 (fun c hc => by unfold up2; rw [upR_ne _ _ (by omega), f3 c (by omega) (by omega)]) ?_⟩)⟩
        have e19 : s3 19 = s2 19 := f3 19 (by decide) (by decide)
        have q19 : ∀ v, up2 s3 19 (42 * p + 1) v 19 = upd (s2 19) (42 * p + 1) v := fun v => by unfold up2; rw [upR_self, e19]
        refine hM2.edit hp f3 e0 e5 hH (fun c a b => by unfold up2; rw [upR_ne _ _ a]) ?_ (fun j hj => ?_) ho
        · rw [q19]
          refine ⟨?_, ?_, fun i r hr c hc => ?_⟩
          · show upd (s2 19) (42 * p + 1) _ (42 * p + 0) = _
            rw [upd_at, if_neg (by omega)]; exact (hM2.2.1 p hp).1
          · show upd (s2 19) (42 * p + 1) _ (42 * p + 1) = _
            rw [upd_at, if_pos rfl]
          · show upd (s2 19) (42 * p + 1) _ (42 * p + (2 + 5 * i + c)) = _
            rw [upd_at, if_neg (by omega)]; exact (hM2.2.1 p hp).2.2 i r hr c hc
        · rw [q19, upd_at, if_neg (by omega)]
theorem st_flipEffect {st : St} (hI : Inv st) (x y : Int32) : wp_X4_flipEffect x y st (fun r1 s1 => wp_X5_flipEffect x y s1 (fun r2 s2 => r1 = r2 ∧ Inv s2)) := by
  obtain ⟨A, ho, hC, hM⟩ := id hI
  rcases rule_or ho x y with hb | ⟨p, n, r, hp, rfl, rfl, hr⟩
  · exact C_isR0 hC hb (g0 (M_isR0 hM ho hb (g0 ⟨rfl, hI⟩)))
  · have hP := ho.2.2.1 p hp
    have hi := ltl hr
    have hl := hP.2.1
    have hor := hP.2.2 n r hr
    have hr1 := hor.1
    have hor' : okR (1 - r.1, r.2) := ⟨by show 1 - r.1 < 2; omega, hor.2⟩
    refine C_isR1 hC ho hp hi (g1 (C_pn hp (s_remember (pc_pol hp) hC.2.2 (hC.2.1 p hp) (fun s1 f1 h1 => ?_))))
    have hP1 : CPs s1 (2 * p + 1) (A.2.1 p) := (hC.2.1 p hp).congr (f1 _ (by omega) (by omega) (by omega)) (f1 _ (by omega) (by omega) (by omega))
    refine s_turnEffect hP1 hl hr hor (fun s2 f2 h2 => ?_)
    obtain ⟨hC2, hf2⟩ := hC.edit hp f1 h1 f2 h2
    have hM2 : MS s2 A := hM.same hf2
    refine s_effectAt h2 (by show ((A.2.1 p).2.set n (1 - r.1, r.2)).length ≤ 8; rw [List.length_set]; exact hl) (r := (1 - r.1, r.2)) (by rw [List.getElem?_set, if_pos rfl, if_pos hi]) hor' ?_
    refine M_isR1 hM2 ho hp hi (g1 (M_edit hM2 ho (fun s3 f3 e0 e5 hH w hw => ?_)))
    have e19 : s3 19 = s2 19 := f3 19 (by decide) (by decide)
    rw [m42, a2, m5, nI_add] at hw
    subst hw
    have ev : s2 19 (42 * p + 2 + 5 * n) = nI r.1 := (hM2.2.1 p hp).at (c := 0) hr (by omega)
    rw [nI_clamp (by omega), e19, ev, show (1 : Int32) - nI r.1 = nI (1 - r.1) from pk_sub (a := 1) (by omega), up2_at, if_pos rfl, if_pos rfl]
    refine ⟨vp_in_nI (by omega) (by omega), vp_in_nI (by omega) (by omega), vp_in_nI (by omega) (by omega), rfl, Inv.of2 (ho.set hp (hP.setr hor')) hC2 (fun c hc => by unfold up2; rw [upR_ne _ _ (by omega), f3 c (by omega) (by omega)]) ?_⟩
    have q19 : ∀ v, up2 s3 19 (42 * p + 2 + 5 * n) v 19 = upd (s2 19) (42 * p + 2 + 5 * n) v := fun v => by unfold up2; rw [upR_self, e19]
    refine hM2.edit hp f3 e0 e5 hH (fun c a b => by unfold up2; rw [upR_ne _ _ a]) ?_ (fun j hj => ?_) ho
    · rw [q19]
      refine (hM2.2.1 p hp).setr hr ?_ ?_ (fun i c hi hne hc => ?_) (fun c hc => ?_)
      · show upd (s2 19) (42 * p + 2 + 5 * n) _ (42 * p + 0) = _
        rw [upd_at, if_neg (by omega)]
      · show upd (s2 19) (42 * p + 2 + 5 * n) _ (42 * p + 1) = _
        rw [upd_at, if_neg (by omega)]
      · show upd (s2 19) (42 * p + 2 + 5 * n) _ (42 * p + (2 + 5 * i + c)) = _
        rw [upd_at, if_neg (by omega)]
      · show upd (s2 19) (42 * p + 2 + 5 * n) _ (42 * p + (2 + 5 * n + c)) = _
        by_cases q : c = 0
        · subst q; rw [upd_at, if_pos (by omega)]; rfl
        · rw [upd_at, if_neg (by omega), show 42 * p + (2 + 5 * n + c) = 42 * p + 2 + 5 * n + c by omega, (hM2.2.1 p hp).at hr hc]
          rcases (show c = 1 ∨ c = 2 ∨ c = 3 ∨ c = 4 by omega) with rfl | rfl | rfl | rfl <;> rfl
    · rw [q19, upd_at, if_neg (by omega)]
theorem st_copyOldToNew {st : St} (hI : Inv st) : wp_X4_copyOldToNew st (fun r1 s1 => wp_X5_copyOldToNew s1 (fun r2 s2 => r1 = r2 ∧ Inv s2)) := by
  obtain ⟨A, ho, hC, hM⟩ := id hI
  have hP := ho.2.2.1 0 (by omega)
  have hl := hP.2.1
  refine s_remember (k := 3) (p := 1) (Or.inr (Or.inl rfl)) hC.2.2 (hC.2.1 1 (by omega)) (fun s1 f1 h1 => ?_)
  have hP1 : CPs s1 1 (A.2.1 0) := (hC.2.1 0 (by omega)).congr (f1 _ (by omega) (by omega) (by omega)) (f1 _ (by omega) (by omega) (by omega))
  refine s_copyFrom (Or.inr (Or.inl rfl)) (Or.inl rfl) (by decide) hP1 (fun s2 f2 h2 => ?_)
  obtain ⟨hC2, hf2⟩ := hC.edit (p := 1) (by omega) f1 h1 f2 h2
  show wp_X5_copyOldToNew s2 (fun r2 s3 => s2 3 1 = r2 ∧ Inv s3)
  rw [h2.1]
  have hM2 : MS s2 A := hM.same hf2
  intro P6 h6
  refine M_edit hM2 ho (fun s3 f3 e0 e5 hH => ?_)
  have e19 : s3 19 = s2 19 := f3 19 (by decide) (by decide)
  have key : ∀ d i, i + d = 42 → P6 (nI i) (upR s3 19 (fun j => if 42 ≤ j ∧ j < 42 + i then s3 19 (j - 42) else s3 19 j)) := by
    intro d
    induction d with
    | zero =>
      intro i hi
      have : i = 42 := by omega
      subst this
      refine h6 _ _ ⟨fun _ => ⟨lit_in (n := 0) _ rfl (by omega) (by omega), ?_, Inv.of2 (ho.set (p := 1) (by omega) hP) hC2 (fun c hc => by rw [upR_ne _ _ (by omega), f3 c (by omega) (by omega)]) ?_⟩, fun c => absurd (by decide) c⟩
      · rw [show (0 : Int32).toNatClampNeg = 0 by decide, upR_self]
        show _ = if 42 ≤ 0 ∧ 0 < 42 + 42 then _ else s3 19 0
        rw [if_neg (by omega), e19]; exact (hM2.2.1 0 (by omega)).1.symm
      · refine hM2.edit (p := 1) (by omega) f3 e0 e5 hH (fun c a b => upR_ne _ _ a) ?_ (fun j hj => ?_) ho
        · rw [upR_self]
          refine (hM2.2.1 0 (by omega)).ext hl (fun j hj => ?_)
          show (if 42 ≤ 42 * 1 + j ∧ 42 * 1 + j < 42 + 42 then s3 19 (42 * 1 + j - 42) else _) = s2 19 (42 * 0 + j)
          rw [if_pos (by omega), e19]; congr 1; omega
        · rw [upR_self]
          show (if 42 ≤ 42 * (1 - 1) + j ∧ 42 * (1 - 1) + j < 42 + 42 then _ else s3 19 (42 * (1 - 1) + j)) = _
          rw [if_neg (by omega), e19]
    | succ d ih =>
      intro i hi
      refine h6 _ _ ?_
      rw [show (42 : Int32) + nI i = nI (42 + i) from nI_add 42 i, nI_clamp (by omega), nI_clamp (by omega)]
      refine ⟨fun c => absurd c (nI_ge (a := i) (b := 42) (by omega) (by omega)), fun _ => ⟨vp_in_nI (by omega) (by omega), vp_in_nI (by omega) (by omega), fun y hy => ?_⟩⟩
      rw [hy, a1, up2_upR, upR_self]
      have e : upd (fun j => if 42 ≤ j ∧ j < 42 + i then s3 19 (j - 42) else s3 19 j) (42 + i) ((fun j => if 42 ≤ j ∧ j < 42 + i then s3 19 (j - 42) else s3 19 j) i) = fun j => if 42 ≤ j ∧ j < 42 + (i + 1) then s3 19 (j - 42) else s3 19 j := by
        funext j; unfold upd
        by_cases q : j = 42 + i
        · subst q; rw [if_pos rfl, if_pos (by omega)]
          show (if 42 ≤ i ∧ _ then _ else _) = _
          rw [if_neg (by omega)]; congr 1; omega
        · rw [if_neg q]
          show (if _ then _ else _) = _
          by_cases q2 : 42 ≤ j ∧ j < 42 + i
          · rw [if_pos q2, if_pos (by omega)]
          · rw [if_neg q2, if_neg (by omega)]
      rw [e]
      exact ih (i + 1) (by omega)
  have h0 := key 42 0 (by omega)
  have e : (fun j => if 42 ≤ j ∧ j < 42 + 0 then s3 19 (j - 42) else s3 19 j) = s3 19 := by funext j; rw [if_neg (by omega)]
  rw [e, upR_id] at h0
  exact h0
