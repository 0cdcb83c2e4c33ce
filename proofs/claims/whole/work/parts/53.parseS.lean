theorem M_rule {T : List Nat} {i p e : Nat} {D : Nat → Pl} {st : St} {Q : Int32 → St → Prop} (he : e < 2) (hM : MD st T i p D) (hD : okD D)
    (hs : ∀ j D' s1, ruN T e i p D = some (j, p, D') → MD s1 T j p D' → FM st s1 → Q 1 s1)
    (hf : ruN T e i p D = none → ∀ s1, FM st s1 → Q 0 s1) : wp_X5_rule (nI p) (nI e) st Q := by
  intro P41 h41
  have hp := hM.2.2.1
  have hP := hM.2.2.2 p hp
  have h8 := (hD p hp).2.1
  have e0 : st 20 (42 * p) = nI (D p).2.length := hP.1
  rw [m42, nI_clamp (by omega), e0]
  refine ⟨vp_in_nI (by omega) (by omega), fun x3 hx3 => ?_⟩
  subst hx3
  refine pk_eq (D p).2.length 8 (fun q => hf (ruN_full (by omega)) st (FM.rf st)) (fun q x4 hx4 => ?_)
  have hl : (D p).2.length < 8 := by omega
  rw [m5, a2, nI_add] at hx4
  subst hx4
  rw [nI_clamp (by omega)]
  refine ⟨vp_in_nI (by omega) (by omega), ?_⟩
  have key : ∀ d a G, a + d = 4 → (∀ c, c < a + 1 → G (42 * p + 2 + 5 * (D p).2.length + c) = nI (fld (allR e) c)) → (∀ j, ¬ (42 * p + 2 + 5 * (D p).2.length ≤ j ∧ j < 42 * p + 2 + 5 * (D p).2.length + 5) → G j = st 20 j) → P41 (nI (42 * p + 2 + 5 * (D p).2.length)) (nI a) (upR st 20 G) := by
    intro d
    induction d with
    | zero =>
      intro a G ha h1 h2
      have : a = 4 := by omega
      subst this
      refine h41 _ _ _ ⟨fun _ => ?_, fun c => absurd (by decide) c⟩
      rw [m42, nI_clamp (by omega), up2_upR, upR_at, if_pos rfl, h2 (42 * p) (by omega), e0, a1]
      refine ⟨vp_in_nI (by omega) (by omega), vp_in_nI (by omega) (by omega), ?_⟩
      have hM1 : MD (upR st 20 (upd G (42 * p) (nI ((D p).2.length + 1)))) T i p (setD D p ((D p).1, (D p).2 ++ [allR e])) := by
        refine hM.wr (fun q hq _ => (hD q hq).2.1) ?_ (fun j hj => ?_)
        · rw [← List.insertIdx_length_self]
          refine hP.ins (Nat.le_refl _) ?_ ?_ (fun k c hk hne hc => ?_) (fun c hc => ?_)
          · show upd _ _ _ _ = _
            rw [upd_at, if_pos (by omega)]
          · show upd _ _ _ _ = _
            rw [upd_at, if_neg (by omega)]; exact h2 _ (by omega)
          · show upd _ _ _ _ = _
            rw [upd_at, if_neg (by omega), if_pos (show k < (D p).2.length by omega)]
            exact h2 _ (by omega)
          · show upd _ _ _ _ = _
            rw [upd_at, if_neg (by omega)]
            have := h1 c (by omega)
            rw [← this]; congr 1; omega
        · rw [upd_at, if_neg (by omega)]; exact h2 _ (by omega)
      intro P2 P64 P127 g2 g64 g127
      exact M_con (D := D) (Q := fun r s => (r = 0 ∨ r = 1) ∧ Q r s) hp hl hD g2 g64 g127 4 i 0 (allR e) _ (by decide) (by omega) hM1 (FM.rf st).wr (fun j r' s1 e1 e2 e3 => ⟨Or.inr rfl, hs j _ s1 (ruN_some hl e1) e2 e3⟩) (fun e1 s1 e2 => ⟨Or.inl rfl, hf (ruN_none e1) s1 e2⟩)
    | succ d ih =>
      intro a G ha h1 h2
      refine h41 _ _ _ ⟨fun c => absurd c (nI_ge (a := a) (b := 4) (by omega) (by omega)), fun _ => M_valuesOf (by omega) ?_⟩
      rw [a1, nI_add, nI_clamp (by omega), vmask a (by omega) e, up2_upR]
      refine ⟨vp_in_nI (by omega) (by omega), fun y hy => ?_⟩
      rw [hy, a1]
      refine ih (a + 1) _ (by omega) (fun c hc => ?_) (fun j hj => ?_)
      · rw [upd_at]
        by_cases q : c = a + 1
        · subst q; rw [if_pos (by omega)]
        · rw [if_neg (by omega)]; exact h1 c (by omega)
      · rw [upd_at, if_neg (by omega)]; exact h2 j hj
  refine key 4 0 _ (by omega) (fun c hc => ?_) (fun j hj => ?_)
  · have : c = 0 := by omega
    subst this
    rw [upd_at, if_pos (by omega)]; rfl
  · rw [upd_at, if_neg (by omega)]
theorem M_stmt {T : List Nat} {i p : Nat} {D : Nat → Pl} {st : St} {Q : Int32 → St → Prop} (hM : MD st T i p D) (hD : okD D)
    (hs : ∀ x s1, stN T i p D = some x → MD s1 T x.1 x.2.1 x.2.2 → FM st s1 → Q 1 s1)
    (hf : stN T i p D = none → ∀ s1, FM st s1 → Q 0 s1) : wp_X5_statement st Q := by
  have hi := hM.1.le
  have hp := hM.2.2.1
  refine s_word (c1 := 111) (c2 := 108) (c3 := 100) (c4 := 0) (c5 := 0) (c6 := 0) (n := 3) (by omega) (by omega) hM.1 (fun q1 => g1 ?_) (fun q1 => g0 ?_)
  · have q1 : mt T (wSx.getD 1 []) i = true := q1
    exact hs (i + 3, 0, D) _ (if_pos q1) ((hM.mv (mt_len _ i hi q1)).sel (p' := 0) (by omega)) (((FM.rf st).mv (Or.inl rfl)).mv (Or.inr rfl))
  have q1 : mt T (wSx.getD 1 []) i = false := q1
  refine s_word (c1 := 110) (c2 := 101) (c3 := 119) (c4 := 0) (c5 := 0) (c6 := 0) (n := 3) (by omega) (by omega) hM.1 (fun q2 => g1 ?_) (fun q2 => g0 ?_)
  · have q2 : mt T (wSx.getD 2 []) i = true := q2
    exact hs (i + 3, 1, D) _ (by unfold stN; rw [if_neg (bnt q1), if_pos q2]) ((hM.mv (mt_len _ i hi q2)).sel (p' := 1) (by omega)) (((FM.rf st).mv (Or.inl rfl)).mv (Or.inr rfl))
  have q2 : mt T (wSx.getD 2 []) i = false := q2
  refine s_word (c1 := 112) (c2 := 101) (c3 := 114) (c4 := 109) (c5 := 105) (c6 := 116) (n := 6) (by omega) (by omega) hM.1 (fun q4 => g1 ?_) (fun q4 => g0 ?_)
  · have q4 : mt T (wSx.getD 9 []) i = true := q4
    have q3 : mt T (wSx.getD 3 []) i = false := mt_ex (c := 112) (d := 117) q4 (by decide)
    have e : stN T i p D = ruN T 0 (i + 6) p D := by unfold stN; rw [if_neg (bnt q1), if_neg (bnt q2), if_neg (bnt q3), if_pos q4]
    have hF : FM st (up2 st 17 8 (nI (i + 6))) := (FM.rf st).mv (Or.inl rfl)
    have hM1 : MD (up2 st 17 8 (nI (i + 6))) T (i + 6) p D := hM.mv (mt_len _ i hi q4)
    rw [hM1.2.1]
    exact M_rule (e := 0) (by omega) hM1 hD (fun j D' s1 e1 e2 e3 => ⟨Or.inr rfl, hs (j, p, D') s1 (e.trans e1) e2 (hF.tr e3)⟩) (fun e1 s1 e2 => ⟨Or.inl rfl, hf (e.trans e1) s1 (hF.tr e2)⟩)
  have q4 : mt T (wSx.getD 9 []) i = false := q4
  refine s_word (c1 := 100) (c2 := 101) (c3 := 110) (c4 := 121) (c5 := 0) (c6 := 0) (n := 4) (by omega) (by omega) hM.1 (fun q5 => g1 ?_) (fun q5 => g0 ?_)
  · have q5 : mt T (wSx.getD 12 []) i = true := q5
    have q3 : mt T (wSx.getD 3 []) i = false := mt_ex (c := 100) (d := 117) q5 (by decide)
    have e : stN T i p D = ruN T 1 (i + 4) p D := by unfold stN; rw [if_neg (bnt q1), if_neg (bnt q2), if_neg (bnt q3), if_neg (bnt q4), if_pos q5]
    have hF : FM st (up2 st 17 8 (nI (i + 4))) := (FM.rf st).mv (Or.inl rfl)
    have hM1 : MD (up2 st 17 8 (nI (i + 4))) T (i + 4) p D := hM.mv (mt_len _ i hi q5)
    rw [hM1.2.1]
    exact M_rule (e := 1) (by omega) hM1 hD (fun j D' s1 e1 e2 e3 => ⟨Or.inr rfl, hs (j, p, D') s1 (e.trans e1) e2 (hF.tr e3)⟩) (fun e1 s1 e2 => ⟨Or.inl rfl, hf (e.trans e1) s1 (hF.tr e2)⟩)
  have q5 : mt T (wSx.getD 12 []) i = false := q5
  refine s_word (c1 := 117) (c2 := 115) (c3 := 101) (c4 := 0) (c5 := 0) (c6 := 0) (n := 3) (by omega) (by omega) hM.1 (fun q3 => g1 ?_) (fun q3 => g0 ?_)
  · have q3 : mt T (wSx.getD 3 []) i = true := q3
    have e : stN T i p D = usN T (i + 3) p D := by unfold stN; rw [if_neg (bnt q1), if_neg (bnt q2), if_pos q3]
    have hM1 : MD (up2 st 17 8 (nI (i + 3))) T (i + 3) p D := hM.mv (mt_len _ i hi q3)
    have hF : FM st (up2 st 17 8 (nI (i + 3))) := (FM.rf st).mv (Or.inl rfl)
    refine M_alg hM1.1 (fun x hx hx5 hxi hxl => ?_) (fun hx => ?_)
    · have hM2 := hM1.mv hxl
      have hF2 : FM st (up2 (up2 st 17 8 (nI (i + 3))) 17 8 (nI x.1)) := hF.mv (Or.inl rfl)
      rw [hM2.2.1, m42, a1, nI_clamp (by omega)]
      refine ⟨vp_in_nI (by omega) (by omega), fun z => absurd z ?_, fun _ => ?_⟩
      · rcases (show x.2 = 0 ∨ x.2 = 1 ∨ x.2 = 2 ∨ x.2 = 3 ∨ x.2 = 4 by omega) with r | r | r | r | r <;> rw [r] <;> decide
      · refine hs (x.1, p, setD D p (x.2, (D p).2)) _ (e.trans (usN_some hx)) ?_ (by unfold up2; exact FM.wr hF2)
        have hP := hM2.2.2.2 p hp
        refine hM2.wr (fun q hq _ => (hD q hq).2.1) ⟨?_, ?_, fun k r hk c hc => ?_⟩ (fun j hj => ?_)
        · show upd _ _ _ _ = _
          rw [upd_at, if_neg (by omega)]; exact hP.1
        · show upd _ _ _ _ = _
          rw [upd_at, if_pos rfl]
        · show upd _ _ _ _ = _
          rw [upd_at, if_neg (by omega)]; exact hP.2.2 k r hk c hc
        · rw [upd_at, if_neg (by omega)]
    · rw [hM1.2.1, m42, a1, nI_clamp (by omega)]
      exact ⟨vp_in_nI (by omega) (by omega), fun _ => hf (e.trans (usN_none hx)) _ (by unfold up2; exact FM.wr hF), fun z => absurd rfl z⟩
  have q3 : mt T (wSx.getD 3 []) i = false := q3
  exact hf (by unfold stN; rw [if_neg (bnt q1), if_neg (bnt q2), if_neg (bnt q3), if_neg (bnt q4), if_neg (bnt q5)]) st (FM.rf st)
theorem conN_ok {T : List Nat} : ∀ (f i u : Nat) (r : Rl) (x : Nat × Rl), i ≤ T.length → okR r → conN T f i u r = some x → okR x.2 ∧ i ≤ x.1 := by
  intro f
  induction f with
  | zero =>
    intro i u r x hi hr h
    by_cases q : T[i]? = some 58
    · have : conN T 0 i u r = none := if_pos q
      rw [this] at h; exact nomatch h
    · rw [conN_no q] at h
      have := Option.some.inj h
      subst this
      exact ⟨hr, Nat.le_refl _⟩
  | succ f ih =>
    intro i u r x hi hr h
    by_cases q : T[i]? = some 58
    · rcases e : atT T (i + 1) with _ | a
      · rw [conN_at q e] at h; exact nomatch h
      · rw [conN_go q e] at h
        obtain ⟨ha, hl⟩ := atT_lt e
        have hb := valN_b (T := T) (n := vcN a) (vcN a) (i + 2) 0 (by omega) (Nat.two_pow_pos _)
        by_cases q2 : u.testBit a = true
        · rw [if_pos q2] at h; exact nomatch h
        · rw [if_neg q2] at h
          by_cases q3 : (valN T (vcN a) (vcN a) (i + 2) 0).2 = 0
          · rw [if_pos q3] at h; exact nomatch h
          · rw [if_neg q3] at h
            have := ih _ _ _ x hb.1.2 (hr.setm ha hb.2) h
            exact ⟨this.1, by omega⟩
    · rw [conN_no q] at h
      have := Option.some.inj h
      subst this
      exact ⟨hr, Nat.le_refl _⟩
theorem alN_ok {T : List Nat} {i : Nat} {x : Nat × Nat} (h : alN T i = some x) : x.2 < 5 ∧ i ≤ x.1 := by
  unfold alN at h
  split at h
  · have := Option.some.inj h; subst this; exact ⟨by show 0 < 5; omega, by show i ≤ i + 5; omega⟩
  · split at h
    · have := Option.some.inj h; subst this; exact ⟨by show 1 < 5; omega, by show i ≤ i + 8; omega⟩
    · split at h
      · have := Option.some.inj h; subst this; exact ⟨by show 2 < 5; omega, by show i ≤ i + 10; omega⟩
      · split at h
        · have := Option.some.inj h; subst this; exact ⟨by show 3 < 5; omega, by show i ≤ i + 7; omega⟩
        · split at h
          · have := Option.some.inj h; subst this; exact ⟨by show 4 < 5; omega, by show i ≤ i + 8; omega⟩
          · exact nomatch h
theorem ruN_ok {T : List Nat} {e i p : Nat} {D : Nat → Pl} {x : Nat × Nat × (Nat → Pl)} (he : e < 2) (hi : i ≤ T.length) (hp : p < 2) (hD : okD D) (h : ruN T e i p D = some x) : okD x.2.2 ∧ i ≤ x.1 := by
  by_cases hl : (D p).2.length < 8
  · rcases hc : conN T 4 i 0 (allR e) with _ | y
    · rw [ruN_none hc] at h; exact nomatch h
    · rw [ruN_some hl hc] at h
      have := Option.some.inj h
      subst this
      have hk := conN_ok 4 i 0 (allR e) y hi ⟨he, by show 255 < 256; omega, by show 15 < 16; omega, by show 255 < 256; omega, by show 15 < 16; omega⟩ hc
      have hO := hD p hp
      refine ⟨hD.set ⟨hO.1, ?_, fun k r hk2 => ?_⟩, hk.2⟩
      · rw [List.length_append]; show _ + 1 ≤ 8; omega
      · have hk2 : ((D p).2 ++ [y.2])[k]? = some r := hk2
        rcases Nat.lt_or_ge k (D p).2.length with q | q
        · rw [List.getElem?_append_left q] at hk2; exact hO.2.2 k r hk2
        · rw [List.getElem?_append_right q] at hk2
          rcases hz : k - (D p).2.length with _ | n
          · rw [hz] at hk2
            have hk2 : some y.2 = some r := hk2
            rw [← Option.some.inj hk2]; exact hk.1
          · rw [hz] at hk2; exact nomatch hk2
  · rw [ruN_full hl] at h; exact nomatch h
theorem stN_ok {T : List Nat} {i p : Nat} {D : Nat → Pl} {x : Nat × Nat × (Nat → Pl)} (hi : i ≤ T.length) (hp : p < 2) (hD : okD D) (h : stN T i p D = some x) : okD x.2.2 ∧ i ≤ x.1 := by
  unfold stN at h
  by_cases q1 : mt T (wSx.getD 1 []) i = true
  · rw [if_pos q1] at h
    have := Option.some.inj h; subst this; exact ⟨hD, by show i ≤ i + 3; omega⟩
  · rw [if_neg q1] at h
    by_cases q2 : mt T (wSx.getD 2 []) i = true
    · rw [if_pos q2] at h
      have := Option.some.inj h; subst this; exact ⟨hD, by show i ≤ i + 3; omega⟩
    · rw [if_neg q2] at h
      by_cases q3 : mt T (wSx.getD 3 []) i = true
      · rw [if_pos q3] at h
        rcases e : alN T (i + 3) with _ | y
        · rw [usN_none e] at h; exact nomatch h
        · rw [usN_some e] at h
          have := Option.some.inj h; subst this
          have hy := alN_ok e
          exact ⟨hD.set ⟨hy.1, (hD p hp).2⟩, by show i ≤ y.1; omega⟩
      · rw [if_neg q3] at h
        by_cases q4 : mt T (wSx.getD 9 []) i = true
        · rw [if_pos q4] at h
          have := ruN_ok (by omega) (mt_len _ i hi q4) hp hD h
          exact ⟨this.1, by omega⟩
        · rw [if_neg q4] at h
          by_cases q5 : mt T (wSx.getD 12 []) i = true
          · rw [if_pos q5] at h
            have := ruN_ok (by omega) (mt_len _ i hi q5) hp hD h
            exact ⟨this.1, by omega⟩
          · rw [if_neg q5] at h; exact nomatch h
theorem s_clears {st : St} {Q : St → Prop} (h : ∀ g, (∀ j, j < 84 → g j = 0) → Q (upR st 20 g)) : wp_X5_clears st Q := by
  intro P2 h2
  have key : ∀ d k g, k + d = 84 → (∀ j, j < k → g j = 0) → P2 (nI k) (upR st 20 g) := by
    intro d
    induction d with
    | zero =>
      intro k g hk hg
      have : k = 84 := by omega
      subst this
      exact h2 _ _ ⟨fun _ => h g hg, fun c => absurd (by decide) c⟩
    | succ d ih =>
      intro k g hk hg
      refine h2 _ _ ⟨fun c => absurd c (nI_ge (a := k) (b := 84) (by omega) (by omega)), fun _ => ⟨vp_in_nI (by omega) (by omega), fun y hy => ?_⟩⟩
      rw [hy, a1, nI_clamp (by omega), up2_upR]
      refine ih (k + 1) _ (by omega) (fun j hj => ?_)
      rw [upd_at]
      by_cases q : j = k
      · rw [if_pos q]
      · rw [if_neg q]; exact hg j (by omega)
  have := key 84 0 (st 20) (by omega) (fun j hj => absurd hj (by omega))
  rwa [upR_id] at this
theorem s_takes {st : St} {Q : St → Prop} (h : ∀ g, (∀ j, j < 84 → g j = st 20 j) → Q (up2 (upR st 19 g) 17 5 0)) : wp_X5_takes st Q := by
  intro P2 h2
  have key : ∀ d k g, k + d = 84 → (∀ j, j < k → g j = st 20 j) → P2 (nI k) (upR st 19 g) := by
    intro d
    induction d with
    | zero =>
      intro k g hk hg
      have : k = 84 := by omega
      subst this
      exact h2 _ _ ⟨fun _ => h g hg, fun c => absurd (by decide) c⟩
    | succ d ih =>
      intro k g hk hg
      refine h2 _ _ ⟨fun c => absurd c (nI_ge (a := k) (b := 84) (by omega) (by omega)), fun _ => ⟨vp_in_nI (by omega) (by omega), vp_in_nI (by omega) (by omega), fun y hy => ?_⟩⟩
      rw [hy, a1, nI_clamp (by omega), up2_upR, upR_ne _ _ (by decide)]
      refine ih (k + 1) _ (by omega) (fun j hj => ?_)
      rw [upd_at]
      by_cases q : j = k
      · rw [if_pos q, q]
      · rw [if_neg q]; exact hg j (by omega)
  have := key 84 0 (st 19) (by omega) (fun j hj => absurd hj (by omega))
  rwa [upR_id] at this
theorem M_synt {T : List Nat} {st : St} {Q : Int32 → St → Prop} (hT : okT T) (h4 : st 17 0 = nI T.length) (h6 : ∀ (j c : Nat), T[j]? = some c → st 18 j = nI c)
    (he : ∀ e s1, topN T 240 0 0 D0 = .inl e → FM st s1 → Q (nI e) s1)
    (hs : ∀ D s1, topN T 240 0 0 D0 = .inr D → FM st s1 → (∀ q, q < 2 → MP (fun j => s1 20 (42 * q + j)) (D q)) → Q (-4) s1) : wp_X5_syntaxError st Q := by
  intro P14 h14
  have key : ∀ f i p D s, T.length ≤ i + f → MD s T i p D → okD D → FM st s → topN T f i p D = topN T 240 0 0 D0 → P14 s := by
    intro f
    induction f with
    | zero =>
      intro i p D s hx hM hD hF e
      refine h14 _ ?_
      have hn := hT.1
      have hi := hM.1.le
      rw [hM.1.2.1, hM.1.2.2.2.1]
      exact pk_le T.length i (fun _ => hs D s e.symm hF hM.2.2.2) (fun q => absurd q (by omega))
    | succ f ih =>
      intro i p D s hx hM hD hF e
      refine h14 _ ?_
      have hn := hT.1
      have hi := hM.1.le
      rw [hM.1.2.1, hM.1.2.2.2.1]
      refine pk_le T.length i (fun q => ?_) (fun q y hy => ?_)
      · rw [topN_end q] at e
        exact hs D s e.symm hF hM.2.2.2
      · subst hy
        have q : ¬ T.length ≤ i := by omega
        refine M_stmt hM hD (fun w s1 e1 e2 e3 => g1 ?_) (fun e1 s1 e2 => ?_)
        · rw [topN_some q e1] at e
          have hok := stN_ok hi hM.2.2.1 hD e1
          refine s_next e2.1 (fun c hc hc2 => pk_eq c 59 (fun q2 => ?_) (fun q2 => ?_)) (fun hc => ⟨fun z => absurd z (by decide), fun _ => ?_⟩)
          · rw [q2] at hc
            rw [if_pos hc] at e
            rw [e2.1.2.2.2.1, a1]
            exact ih (w.1 + 1) w.2.1 w.2.2 _ (by omega) (e2.mv (tlt hc)) hok.1 ((hF.tr e3).mv (Or.inl rfl)) e
          · rw [if_neg (by rw [hc]; exact fun z => q2 (Option.some.inj z))] at e
            exact he i s1 e.symm (hF.tr e3)
          · rw [if_neg (by rw [hc]; exact fun z => nomatch z)] at e
            exact he i s1 e.symm (hF.tr e3)
        · rw [topN_none q e1] at e
          exact g0 (he i s1 e.symm (hF.tr e2))
  refine s_clears (fun g hg => ?_)
  have hF1 : FM st (up2 (up2 (upR st 20 g) 17 8 0) 17 9 0) := ((FM.wr (FM.rf st)).mv (Or.inl rfl)).mv (Or.inr rfl)
  refine key 240 0 0 D0 _ (by have := hT.1; omega) ⟨⟨hT, hF1.2.1.trans h4, fun j c hj => ?_, ?_, by omega⟩, ?_, by omega, fun q hq => ?_⟩ okD0 hF1 rfl
  · rw [hF1.1 18 (by decide) (by decide)]; exact h6 j c hj
  · rw [up2_at, if_pos rfl, if_neg (by decide), up2_at, if_pos rfl, if_pos rfl]; rfl
  · rw [up2_at, if_pos rfl, if_pos rfl]; rfl
  · have e20 : (up2 (up2 (upR st 20 g) 17 8 0) 17 9 0) 20 = g := by
      unfold up2
      rw [upR_ne _ _ (by decide), upR_ne _ _ (by decide), upR_self]
    rw [e20]
    exact ⟨hg _ (by omega), hg _ (by omega), fun k r hk => nomatch hk⟩
theorem Inv.read {st s1 s2 : St} (hI : Inv st) (hC : FC st s1) (hM : FM s1 s2) : Inv s2 := by
  obtain ⟨A, ho, h1, h2⟩ := hI
  have e : ∀ c, c ≠ 5 → c < 7 ∨ 10 < c → c ≠ 17 → c ≠ 20 → s2 c = st c := fun c a b c1 d => (hM.1 c c1 d).trans (hC.1 c a b)
  have e17 : s1 17 = st 17 := hC.1 17 (by decide) (by omega)
  refine ⟨A, ho, h1.congr ?_ (e 6 (by decide) (by omega) (by decide) (by decide)) (fun c hc => e c (by omega) (by omega) (by omega) (by omega)) ?_ (e 12 (by decide) (by omega) (by decide) (by decide)) (e 13 (by decide) (by omega) (by decide) (by decide)), h2.congr ?_ ?_ (e 18 (by decide) (by omega) (by decide) (by decide)) (e 19 (by decide) (by omega) (by decide) (by decide)) (e 21 (by decide) (by omega) (by decide) (by decide))⟩
  · rw [hM.1 5 (by decide) (by decide)]; exact hC.2
  · rw [e 11 (by decide) (by omega) (by decide) (by decide)]
  · rw [hM.2.1, e17]
  · rw [hM.2.2, e17]
theorem st_syntaxError {st : St} (hI : Inv st) : wp_X4_syntaxError st (fun r1 s1 => wp_X5_syntaxError s1 (fun r2 s2 => r1 = r2 ∧ Inv s2)) := by
  obtain ⟨A, ho, hC, hM⟩ := id hI
  refine C_malf (T := A.1) ⟨ho.1, ho.2.1⟩ hC.1.1 hC.1.2 (fun e s1 _ et hF => ?_) (fun D s1 et hF hD hP => ?_)
  · refine M_synt (T := A.1) ⟨ho.1, ho.2.1⟩ (by rw [hF.1 17 (by decide) (by omega)]; exact hM.1.1) (by rw [hF.1 18 (by decide) (by omega)]; exact hM.1.2) (fun e2 s2 et2 hF2 => ?_) (fun D s2 et2 hF2 hP => ?_)
    · rw [et] at et2
      exact ⟨by rw [Sum.inl.inj et2], hI.read hF hF2⟩
    · rw [et] at et2; exact nomatch et2
  · refine M_synt (T := A.1) ⟨ho.1, ho.2.1⟩ (by rw [hF.1 17 (by decide) (by omega)]; exact hM.1.1) (by rw [hF.1 18 (by decide) (by omega)]; exact hM.1.2) (fun e2 s2 et2 hF2 => ?_) (fun D s2 et2 hF2 hP => ⟨rfl, hI.read hF hF2⟩)
    rw [et] at et2; exact nomatch et2
theorem n4 {e : Nat} (h : e < 240) : ¬ nI e = (-4 : Int32) := by
  intro z
  have := nI_pos (n := e) (by omega)
  rw [z] at this
  exact this (by decide)
theorem st_load {st : St} (hI : Inv st) : wp_X4_load st (fun r1 s1 => wp_X5_load s1 (fun r2 s2 => r1 = r2 ∧ Inv s2)) := by
  obtain ⟨A, ho, hC, hM⟩ := id hI
  refine C_malf (T := A.1) ⟨ho.1, ho.2.1⟩ hC.1.1 hC.1.2 (fun e s1 he et hF => ⟨fun z => absurd z (n4 he), fun _ => ?_⟩) (fun D s1 et hF hD hP => ⟨fun _ => ?_, fun z => absurd rfl z⟩)
  · refine M_synt (T := A.1) ⟨ho.1, ho.2.1⟩ (by rw [hF.1 17 (by decide) (by omega)]; exact hM.1.1) (by rw [hF.1 18 (by decide) (by omega)]; exact hM.1.2) (fun e2 s2 et2 hF2 => ?_) (fun D s2 et2 hF2 hP => ?_)
    · rw [et] at et2
      have := Sum.inl.inj et2
      subst this
      exact ⟨fun z => absurd z (n4 he), fun _ => ⟨rfl, hI.read hF hF2⟩⟩
    · rw [et] at et2; exact nomatch et2
  · refine ⟨Or.inr (Or.inr (Or.inl rfl)), s_copyFrom (k := 1) (k1 := 7) (Or.inl rfl) (Or.inr (Or.inr (Or.inl rfl))) (by decide) (hP 0 (by omega)) (fun s2 f2 p2 => ⟨Or.inr (Or.inr (Or.inr rfl)), s_copyFrom (k := 3) (k1 := 9) (Or.inr (Or.inl rfl)) (Or.inr (Or.inr (Or.inr rfl))) (by decide) (P := D 1) ((hP 1 (by omega)).congr (f2 9 (by decide) (by decide)) (f2 10 (by decide) (by decide))) (fun s3 f3 p3 => ?_)⟩)⟩
    have e3 : ∀ c, 4 < c → c ≠ 11 → (up2 s3 11 2 0) c = s1 c := fun c h1 h2 => by
      unfold up2; rw [upR_ne _ _ h2, f3 c (by omega) (by omega), f2 c (by omega) (by omega)]
    have q0 : CPs (up2 s3 11 2 0) 1 (D 0) := p2.congr (by unfold up2; rw [upR_ne _ _ (by decide)]; exact f3 1 (by decide) (by decide)) (by unfold up2; rw [upR_ne _ _ (by decide)]; exact f3 2 (by decide) (by decide))
    have q1 : CPs (up2 s3 11 2 0) 3 (D 1) := p3.congr (by unfold up2; rw [upR_ne _ _ (by decide)]) (by unfold up2; rw [upR_ne _ _ (by decide)])
    show wp_X5_load (up2 s3 11 2 0) (fun r2 s2 => (up2 s3 11 2 0) 1 1 + (up2 s3 11 2 0) 3 1 = r2 ∧ Inv s2)
    rw [q0.1, q1.1]
    refine M_synt (T := A.1) ⟨ho.1, ho.2.1⟩ (by rw [e3 17 (by omega) (by decide), hF.1 17 (by decide) (by omega)]; exact hM.1.1) (by rw [e3 18 (by omega) (by decide), hF.1 18 (by decide) (by omega)]; exact hM.1.2) (fun e2 s4 et2 hF2 => ?_) (fun D' s4 et2 hF2 hP4 => ⟨fun _ => ?_, fun z => absurd rfl z⟩)
    · rw [et] at et2; exact nomatch et2
    · rw [et] at et2
      have := Sum.inr.inj et2
      subst this
      refine s_takes (fun g hg => ?_)
      have m0 := hP4 0 (by omega)
      have m1 := hP4 1 (by omega)
      have e19 : (up2 (upR s4 19 g) 17 5 0) 19 = g := by unfold up2; rw [upR_ne _ _ (by decide), upR_self]
      have eo : ∀ c, c ≠ 19 → c ≠ 17 → (up2 (upR s4 19 g) 17 5 0) c = s4 c := fun c h1 h2 => by unfold up2; rw [upR_ne _ _ h2, upR_ne _ _ h1]
      have el : ∀ c, c < 17 → (up2 (upR s4 19 g) 17 5 0) c = (up2 s3 11 2 0) c := fun c h1 => (eo c (by omega) (by omega)).trans (hF2.1 c (by omega) (by omega))
      have mp : ∀ q, q < 2 → MP (fun j => g (42 * q + j)) (D q) := fun q hq => (hP4 q hq).ext (hD q hq).2.1 (fun j hj => hg _ (by omega))
      refine ⟨vp_in_nI (n := 0) (by omega) (by omega), vp_in_nI (n := 42) (by omega) (by omega), ?_, (A.1, D, []), ⟨ho.1, ho.2.1, fun p hp => hD p hp, by show 0 ≤ 4; omega, fun i x h => nomatch h⟩, ⟨⟨?_, fun j c hj => ?_⟩, fun p hp => ?_, ?_, by show 0 ≤ 4; omega, fun i x h => nomatch h⟩, ⟨?_, fun j c hj => ?_⟩, fun p hp => ?_, ?_, fun i x h => nomatch h⟩
      · rw [e19, show (0 : Int32).toNatClampNeg = 0 from rfl, show (42 : Int32).toNatClampNeg = 42 from rfl]
        rw [show g 0 = nI (D 0).2.length from (mp 0 (by omega)).1, show g 42 = nI (D 1).2.length from (mp 1 (by omega)).1]
      · rw [el 5 (by omega), e3 5 (by omega) (by decide)]; exact hF.2.trans hC.1.1
      · rw [el 6 (by omega), e3 6 (by omega) (by decide), hF.1 6 (by decide) (by omega)]; exact hC.1.2 j c hj
      · rcases (show p = 0 ∨ p = 1 by omega) with rfl | rfl
        · exact q0.congr (el 1 (by omega)) (el 2 (by omega))
        · exact q1.congr (el 3 (by omega)) (el 4 (by omega))
      · rw [el 11 (by omega), up2_at, if_pos rfl, if_pos rfl]; rfl
      · rw [up2_at, if_pos rfl, if_neg (by decide), upR_ne _ _ (by decide), hF2.2.1, e3 17 (by omega) (by decide), hF.1 17 (by decide) (by omega)]; exact hM.1.1
      · rw [eo 18 (by decide) (by decide), hF2.1 18 (by decide) (by decide), e3 18 (by omega) (by decide), hF.1 18 (by decide) (by omega)]; exact hM.1.2 j c hj
      · unfold MPs; rw [e19]; exact mp p hp
      · rw [up2_at, if_pos rfl, if_pos rfl]; rfl
