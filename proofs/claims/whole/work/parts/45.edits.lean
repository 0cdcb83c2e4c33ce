theorem wo {p j : Nat} (hp : p < 2) (hj : j < 42) : ¬ (42 * p ≤ 42 * (1 - p) + j ∧ 42 * (1 - p) + j < 42 * p + 42) := by omega
/-- the rule of any request, laid at its place -/
theorem M_lay {p r e : Nat} {s : St} {g : Nat → Int32} {P113 : Int32 → Int32 → St → Prop} {Q : Int32 → St → Prop} (hp : p < 2) (hr : r < 8) (he : e < 2)
    (h113 : ∀ (x4 : Int32) (x5 : Int32) (st : St), (((4 : Int32) ≤ x5 → (vp_in ((42 : Int32) * nI p) 84 ∧ (vp_in ((42 : Int32) * nI p) 84 ∧ (vp_in ((42 : Int32) * nI p) 84 ∧ (Q ((up2 st 19 ((42 : Int32) * nI p).toNatClampNeg ((st 19 ((42 : Int32) * nI p).toNatClampNeg) + (1 : Int32))) 19 ((42 : Int32) * nI p).toNatClampNeg) (up2 st 19 ((42 : Int32) * nI p).toNatClampNeg ((st 19 ((42 : Int32) * nI p).toNatClampNeg) + (1 : Int32)))))))) ∧ (¬ (4 : Int32) ≤ x5 → (wp_X5_valuesOf x5 st (fun r_6 s_5 => vp_in ((x4 + (1 : Int32)) + x5) 84 ∧ (∀ x5_7 : Int32, x5_7 = x5 + (1 : Int32) → P113 x4 x5_7 (up2 s_5 19 ((x4 + (1 : Int32)) + x5).toNatClampNeg (((1 : Int32) <<< (r_6 &&& (31 : Int32))) - (1 : Int32)))))))) → P113 x4 x5 st)
    (h : ∀ g', (∀ c, c < 5 → g' (42 * p + 2 + 5 * r + c) = nI (fld (allR e) c)) → g' (42 * p) = g (42 * p) + 1 → (∀ j, j ≠ 42 * p → ¬ (42 * p + 2 + 5 * r ≤ j ∧ j < 42 * p + 2 + 5 * r + 5) → g' j = g j) → Q (g (42 * p) + 1) (upR s 19 g')) : P113 (nI (42 * p + 2 + 5 * r)) 0 (up2 (upR s 19 g) 19 (42 * p + 2 + 5 * r) (nI e)) := by
  have key : ∀ d a G, a + d = 4 → (∀ c, c < a + 1 → G (42 * p + 2 + 5 * r + c) = nI (fld (allR e) c)) → (∀ j, ¬ (42 * p + 2 + 5 * r ≤ j ∧ j < 42 * p + 2 + 5 * r + 5) → G j = g j) → P113 (nI (42 * p + 2 + 5 * r)) (nI a) (upR s 19 G) := by
    intro d
    induction d with
    | zero =>
      intro a G ha h1 h2
      have : a = 4 := by omega
      subst this
      refine h113 _ _ _ ?_
      rw [m42, nI_clamp (by omega), up2_upR, upR_at, if_pos rfl, upR_at, if_pos rfl, upd_at, if_pos rfl, h2 (42 * p) (by omega)]
      refine ⟨fun _ => ⟨vp_in_nI (by omega) (by omega), vp_in_nI (by omega) (by omega), vp_in_nI (by omega) (by omega), h _ (fun c hc => ?_) ?_ (fun j hj hn => ?_)⟩, fun c => absurd (by decide) c⟩
      · rw [upd_at, if_neg (by omega)]; exact h1 c (by omega)
      · rw [upd_at, if_pos rfl]
      · rw [upd_at, if_neg hj]; exact h2 j hn
    | succ d ih =>
      intro a G ha h1 h2
      refine h113 _ _ _ ⟨fun c => absurd c (nI_ge (a := a) (b := 4) (by omega) (by omega)), fun _ => M_valuesOf (by omega) ?_⟩
      rw [a1, nI_add, nI_clamp (by omega), vmask a (by omega) e, up2_upR]
      refine ⟨vp_in_nI (by omega) (by omega), fun y hy => ?_⟩
      rw [hy, a1]
      refine ih (a + 1) _ (by omega) (fun c hc => ?_) (fun j hj => ?_)
      · rw [upd_at]
        by_cases q : c = a + 1
        · subst q; rw [if_pos (by omega)]
        · rw [if_neg (by omega)]; exact h1 c (by omega)
      · rw [upd_at, if_neg (by omega)]; exact h2 j hj
  rw [up2_upR]
  refine key 4 0 _ (by omega) (fun c hc => ?_) (fun j hj => ?_)
  · have : c = 0 := by omega
    subst this
    rw [upd_at, if_pos (by omega)]; rfl
  · rw [upd_at, if_neg (by omega)]
theorem st_addRule {st : St} (hI : Inv st) (x y z : Int32) : wp_X4_addRule x y z st (fun r1 s1 => wp_X5_addRule x y z s1 (fun r2 s2 => r1 = r2 ∧ Inv s2)) := by
  obtain ⟨A, ho, hC, hM⟩ := id hI
  rcases bad_or x (n := 2) (by omega) with hb | ⟨p, hp, rfl⟩
  · exact C_isP0 hb (g0 (fun P67 P113 _ _ => M_isP0 hb (g0 ⟨rfl, hI⟩)))
  · have hP := ho.2.2.1 p hp
    have hl := hP.2.1
    have eM : st 19 (42 * p) = nI (A.2.1 p).2.length := (hM.2.1 p hp).1
    -- the reference's guards, whatever is answered behind them
    have mbad : (bad ((A.2.1 p).2.length + 1) y ∨ bad 2 z) → wp_X5_addRule (nI p) y z st (fun r2 s2 => (-1 : Int32) = r2 ∧ Inv s2) := by
      intro hb P67 P113 _ _
      refine M_isP1 hp (g1 ?_)
      rw [m42, nI_clamp (by omega), eM]
      refine ⟨vp_in_nI (by omega) (by omega), ?_⟩
      rcases bad_or y (n := (A.2.1 p).2.length + 1) (by omega) with q | ⟨i, hi, rfl⟩
      · exact M_in0 (by omega) q (g0 ⟨rfl, hI⟩)
      · refine M_in1 (by omega) (by omega) (g1 ?_)
        rcases hb with q | q
        · exact absurd rfl (bad_ne (by omega) hi q)
        · exact M_in0 (n := 1) (by omega) q (g0 ⟨rfl, hI⟩)
    rcases bad_or z (n := 2) (by omega) with hb | ⟨e, he, rfl⟩
    · exact C_isP1 hp (g1 (C_isE0 hb (g0 (mbad (Or.inr hb)))))
    · refine C_isP1 hp (g1 (C_isE1 he (g1 (C_pn hp ?_))))
      have eC : st (2 * p + 1) 1 = nI (A.2.1 p).2.length := (hC.2.1 p hp).1
      rcases bad_or y (n := (A.2.1 p).2.length + 1) (by omega) with hb | ⟨i, hi, rfl⟩
      · refine ⟨fun _ => mbad (Or.inl hb), fun c => ?_⟩
        show (y ≤ st (2 * p + 1) 1 → _) ∧ _
        rw [eC]
        refine ⟨fun c2 => ?_, fun _ => mbad (Or.inl hb)⟩
        rcases hb with q | q
        · exact absurd q c
        · exfalso
          have h1 := Int32.le_iff_toInt_le.mp q
          have h2 := Int32.le_iff_toInt_le.mp c2
          rw [nI_toInt (by omega)] at h1 h2
          omega
      · refine ⟨fun c => absurd c (nI_pos (by omega)), fun _ => ?_⟩
        show (nI i ≤ st (2 * p + 1) 1 → ((st (2 * p + 1) 1 < (8 : Int32) → _) ∧ (¬ st (2 * p + 1) 1 < (8 : Int32) → _))) ∧ _
        rw [eC]
        refine ⟨fun _ => ⟨fun c => ?_, fun c => ?_⟩, fun c => absurd (nI_le (by omega) (by omega)) c⟩
        · have c : (A.2.1 p).2.length < 8 := (nI_ltI (b := 8) (by omega) (by omega)).mp c
          refine s_remember (pc_pol hp) hC.2.2 (hC.2.1 p hp) (fun s1 f1 h1 => ?_)
          have hP1 : CPs s1 (2 * p + 1) (A.2.1 p) := (hC.2.1 p hp).congr (f1 _ (by omega) (by omega) (by omega)) (f1 _ (by omega) (by omega) (by omega))
          refine s_insertRule hP1 c (by omega) he (fun s2 f2 h2 => ?_)
          obtain ⟨hC2, hf2⟩ := hC.edit hp f1 h1 f2 h2
          show wp_X5_addRule (nI p) (nI i) (nI e) s2 (fun r2 s3 => s2 (2 * p + 1) 1 = r2 ∧ Inv s3)
          have hl' : ((A.2.1 p).2.insertIdx i (allR e)).length = (A.2.1 p).2.length + 1 := List.length_insertIdx_of_le_length (by omega) _
          have er : s2 (2 * p + 1) 1 = nI ((A.2.1 p).2.length + 1) := by rw [h2.1, hl']
          rw [er]
          have hM2 : MS s2 A := hM.same hf2
          have eM2 : s2 19 (42 * p) = nI (A.2.1 p).2.length := (hM2.2.1 p hp).1
          intro P67 P113 h67 h113
          refine M_isP1 hp (g1 ?_)
          rw [m42, nI_clamp (by omega), eM2]
          refine ⟨vp_in_nI (by omega) (by omega), M_in1 (by omega) (by omega) (g1 (M_in1 (n := 1) (by omega) (by omega) (g1 ⟨vp_in_nI (by omega) (by omega), fun c2 => by rw [eM2] at c2; exact absurd ((nI_eq (b := 8) (by omega) (by omega)).mp c2) (by omega), fun _ => M_edit hM2 ho (fun s3 f3 e0 e5 hH => ⟨vp_in_nI (by omega) (by omega), fun x4 hx4 => ?_⟩)⟩)))⟩
          have e19 : s3 19 = s2 19 := f3 19 (by decide) (by decide)
          rw [e19, eM2] at hx4
          subst hx4
          have lp : ∀ d k g src, k = i + d → k ≤ (A.2.1 p).2.length → RW g (s2 19) p src → (∀ j, j < 8 → src j = if k < j ∧ j ≤ (A.2.1 p).2.length then j - 1 else j) → P67 (nI k) (upR s3 19 g) := by
            intro d
            induction d with
            | zero =>
              intro k g src hk hkl hg hsrc
              have hk : k = i := by omega
              subst hk
              refine h67 _ _ ⟨fun _ w hw => ?_, fun c => absurd (nI_le (Nat.le_refl _) (by omega)) c⟩
              rw [m42, a2, m5, nI_add] at hw
              subst hw
              rw [nI_clamp (by omega)]
              refine ⟨vp_in_nI (by omega) (by omega), M_lay (Q := fun r2 s3 => nI ((A.2.1 p).2.length + 1) = r2 ∧ Inv s3) hp (by omega) he h113 (fun g' q1 q2 q3 => ?_)⟩
              have hg0 : g (42 * p) = s2 19 (42 * p) := hg.2 _ (by omega)
              rw [hg0, eM2, a1] at q2 ⊢
              refine ⟨rfl, Inv.of2 (ho.set hp (hP.ins c (by omega) he)) hC2 (fun c hc => by rw [upR_ne _ _ (by omega), f3 c (by omega) (by omega)]) ?_⟩
              refine hM2.edit hp f3 e0 e5 hH (fun c a b => upR_ne _ _ a) ?_ (fun j hj => ?_) ho
              · rw [upR_self]
                refine (hM2.2.1 p hp).ins (by omega) q2 ?_ (fun j c hj hne hc => ?_) (fun c hc => ?_)
                · show g' (42 * p + 1) = s2 19 (42 * p + 1)
                  rw [q3 _ (by omega) (by omega), hg.2 _ (by omega)]
                · show g' (42 * p + (2 + 5 * j + c)) = s2 19 (42 * p + (2 + 5 * _ + c))
                  rw [q3 _ (by omega) (by omega), show 42 * p + (2 + 5 * j + c) = 42 * p + 2 + 5 * j + c by omega, hg.1 j c (by omega) hc, hsrc j (by omega)]
                  congr 1
                  by_cases q : j < k
                  · rw [if_neg (by omega), if_pos q]; omega
                  · rw [if_pos (by omega), if_neg q]; omega
                · show g' (42 * p + (2 + 5 * k + c)) = _
                  rw [show 42 * p + (2 + 5 * k + c) = 42 * p + 2 + 5 * k + c by omega]; exact q1 c hc
              · rw [upR_self, q3 _ (by omega) (by omega), hg.2 _ (by omega)]
            | succ d ih =>
              intro k g src hk hkl hg hsrc
              refine h67 _ _ ⟨fun c => absurd c (nI_ge (by omega) (by omega)), fun _ => ?_⟩
              rw [show nI k - (1 : Int32) = nI (k - 1) from pk_sub (b := 1) (by omega)]
              refine M_copies hp (by omega) (by omega) (by omega) hg (fun g' hg' w hw => ?_)
              rw [hw, show nI k + (-1 : Int32) = nI (k - 1) by have := pk_m1 (k - 1); rwa [show k - 1 + 1 = k by omega] at this]
              refine ih (k - 1) g' _ (by omega) (by omega) hg' (fun j hj => ?_)
              show (if j = k then src (k - 1) else src j) = _
              by_cases q : j = k
              · rw [if_pos q, hsrc (k - 1) (by omega), if_neg (by omega), if_pos (by omega)]; omega
              · rw [if_neg q, hsrc j hj]
                by_cases q2 : k < j ∧ j ≤ (A.2.1 p).2.length
                · rw [if_pos q2, if_pos (by omega)]
                · rw [if_neg q2, if_neg (by omega)]
          have h0 := lp ((A.2.1 p).2.length - i) (A.2.1 p).2.length (s2 19) (fun j => j) (by omega) (Nat.le_refl _) (RW.rf _ _) (fun j hj => by rw [if_neg (by omega)])
          rw [← e19, upR_id] at h0
          exact h0
        · have c : (A.2.1 p).2.length = 8 := by
            rcases Nat.lt_or_ge (A.2.1 p).2.length 8 with q | q
            · exact absurd (nI_lt (b := 8) q (by omega)) c
            · omega
          intro P67 P113 _ _
          refine M_isP1 hp (g1 ?_)
          rw [m42, nI_clamp (by omega), eM]
          exact ⟨vp_in_nI (by omega) (by omega), M_in1 (by omega) (by omega) (g1 (M_in1 (n := 1) (by omega) (by omega) (g1 ⟨vp_in_nI (by omega) (by omega), fun _ => ⟨rfl, hI⟩, fun c2 => absurd (by rw [eM, c]; rfl) c2⟩)))⟩
