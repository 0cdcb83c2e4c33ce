def MD (st : St) (T : List Nat) (i p : Nat) (D : Nat → Pl) : Prop := Tm st T i ∧ st 17 9 = nI p ∧ p < 2 ∧ ∀ q, q < 2 → MP (fun j => st 20 (42 * q + j)) (D q)
def FM (st s1 : St) : Prop := (∀ c, c ≠ 17 → c ≠ 20 → s1 c = st c) ∧ s1 17 0 = st 17 0 ∧ s1 17 5 = st 17 5
theorem FM.rf (st : St) : FM st st := ⟨fun _ _ _ => rfl, rfl, rfl⟩
theorem FM.tr {a b c : St} (h : FM a b) (g : FM b c) : FM a c := ⟨fun x h1 h2 => (g.1 x h1 h2).trans (h.1 x h1 h2), g.2.1.trans h.2.1, g.2.2.trans h.2.2⟩
theorem FM.mv {a b : St} {v : Int32} {j : Nat} (hj : j = 8 ∨ j = 9) (h : FM a b) : FM a (up2 b 17 j v) := by
  refine h.tr ⟨fun c h1 _ => ?_, ?_, ?_⟩
  · unfold up2; rw [upR_ne _ _ h1]
  · rw [up2_at, if_pos rfl, if_neg (by omega)]
  · rw [up2_at, if_pos rfl, if_neg (by omega)]
theorem FM.wr {a b : St} {g : Nat → Int32} (h : FM a b) : FM a (upR b 20 g) := by
  refine h.tr ⟨fun c _ h2 => upR_ne _ _ h2, ?_, ?_⟩
  · rw [upR_ne _ _ (by decide)]
  · rw [upR_ne _ _ (by decide)]
theorem MD.mv {st : St} {T : List Nat} {i i' p : Nat} {D : Nat → Pl} (h : MD st T i p D) (hi : i' ≤ T.length) : MD (up2 st 17 8 (nI i')) T i' p D := by
  obtain ⟨h1, h2, h3, h4⟩ := h
  have e20 : (up2 st 17 8 (nI i')) 20 = st 20 := by unfold up2; rw [upR_ne _ _ (by decide)]
  refine ⟨h1.mv hi, ?_, h3, fun q hq => by rw [e20]; exact h4 q hq⟩
  rw [up2_at, if_pos rfl, if_neg (by decide)]; exact h2
theorem MD.sel {st : St} {T : List Nat} {i p p' : Nat} {D : Nat → Pl} (h : MD st T i p D) (hp : p' < 2) : MD (up2 st 17 9 (nI p')) T i p' D := by
  obtain ⟨h1, h2, h3, h4⟩ := h
  have e20 : (up2 st 17 9 (nI p')) 20 = st 20 := by unfold up2; rw [upR_ne _ _ (by decide)]
  refine ⟨⟨h1.1, ?_, fun j c hj => ?_, ?_, h1.2.2.2.2⟩, ?_, hp, fun q hq => by rw [e20]; exact h4 q hq⟩
  · rw [up2_at, if_pos rfl, if_neg (by decide)]; exact h1.2.1
  · rw [up2_at, if_neg (by decide)]; exact h1.2.2.1 j c hj
  · rw [up2_at, if_pos rfl, if_neg (by decide)]; exact h1.2.2.2.1
  · rw [up2_at, if_pos rfl, if_pos rfl]
theorem MD.wr {st : St} {T : List Nat} {i p : Nat} {D : Nat → Pl} {P : Pl} {g : Nat → Int32} (h : MD st T i p D) (hD : ∀ q, q < 2 → q ≠ p → (D q).2.length ≤ 8) (hP : MP (fun j => g (42 * p + j)) P) (ho : ∀ j, j < 42 → g (42 * (1 - p) + j) = st 20 (42 * (1 - p) + j)) : MD (upR st 20 g) T i p (setD D p P) := by
  obtain ⟨h1, h2, h3, h4⟩ := h
  have e17 : (upR st 20 g) 17 = st 17 := upR_ne _ _ (by decide)
  have e18 : (upR st 20 g) 18 = st 18 := upR_ne _ _ (by decide)
  refine ⟨⟨h1.1, by rw [e17]; exact h1.2.1, fun j c hj => by rw [e18]; exact h1.2.2.1 j c hj, by rw [e17]; exact h1.2.2.2.1, h1.2.2.2.2⟩, by rw [e17]; exact h2, h3, fun q hq => ?_⟩
  rw [upR_self]
  by_cases e : q = p
  · subst e; rw [setD_at]; exact hP
  · rw [setD_ne _ _ e]
    refine (h4 q hq).ext (hD q hq e) (fun j hj => ?_)
    have : q = 1 - p := by omega
    subst this
    exact ho j hj
theorem popc_or : ∀ m, m < 256 → ∀ v, v < 8 → m.testBit v = false → popc (m ||| 2 ^ v) = popc m + 1 := by decide +kernel
theorem full8 : ∀ m, m < 256 → popc m = 8 → ∀ v, v < 8 → m.testBit v = true := by decide +kernel
theorem full4 : ∀ m, m < 16 → popc m = 4 → ∀ v, v < 4 → m.testBit v = true := by decide +kernel
theorem vc48 : ∀ x, x < 4 → vcN x = 8 ∨ vcN x = 4 := by decide
theorem full {x m v : Nat} (hx : x < 4) (hm : m < 2 ^ vcN x) (hp : popc m = vcN x) (hv : v < vcN x) : m.testBit v = true := by
  rcases vc48 x hx with e | e
  · rw [e] at hm hp hv; exact full8 m hm hp v hv
  · rw [e] at hm hp hv; exact full4 m hm hp v hv
theorem M_inA {c n : Nat} {st : St} {Q : Int32 → St → Prop} (hc : c < 127) (hn : n ≤ 8) (h1 : 48 ≤ c → c < 48 + n → Q 1 st) (h0 : ¬ (48 ≤ c ∧ c < 48 + n) → Q 0 st) : wp_X5_in (nI c) (48 : Int32) (((48 : Int32) + nI n) - (1 : Int32)) st Q := by
  rw [show ((48 : Int32) + nI n) - (1 : Int32) = nI (47 + n) by rw [show (48 : Int32) + nI n = nI (47 + n + 1) from (nI_add 48 n).trans (by rw [show 48 + n = 47 + n + 1 by omega]), nI_pred]]
  refine pk_lt c 48 (fun q => h0 (by omega)) (fun q => pk_lt (47 + n) c (fun q2 => h0 (by omega)) (fun q2 => h1 q (by omega)))
theorem M_vals {x u : Nat} {T : List Nat} {st : St} {P64 P127 : Int32 → Int32 → Int32 → St → Prop} (hx : x < 4)
    (h64 : ∀ (x2 : Int32) (x3 : Int32) (x4 : Int32) (st : St), (wp_X5_next st (fun r_14 s_13 => wp_X5_valuesOf x3 s_13 (fun r_16 s_15 => wp_X5_in r_14 (48 : Int32) (((48 : Int32) + r_16) - (1 : Int32)) s_15 (fun r_18 s_17 => (r_18 = 0 → (P127 x2 x3 x4 s_17)) ∧ (¬ r_18 = 0 → (wp_X5_next s_17 (fun r_20 s_19 => wp_X5_has x4 (r_20 - (48 : Int32)) s_19 (fun r_22 s_21 => (r_22 = 0 → (wp_X5_next s_21 (fun r_24 s_23 => ∀ x4_25 : Int32, x4_25 = x4 ||| ((1 : Int32) <<< ((r_24 - (48 : Int32)) &&& (31 : Int32))) → P64 x2 x3 x4_25 (up2 s_23 17 8 ((s_23 17 8) + (1 : Int32)))))) ∧ (¬ r_22 = 0 → (P127 x2 x3 x4 s_21)))))))))) → P64 x2 x3 x4 st) :
    ∀ f i m, popc m + f = vcN x → m < 2 ^ vcN x → Tm (up2 st 17 8 (nI i)) T i → P127 (nI u) (nI x) (nI (valN T (vcN x) f i m).2) (up2 st 17 8 (nI (valN T (vcN x) f i m).1)) → P64 (nI u) (nI x) (nI m) (up2 st 17 8 (nI i)) := by
  have hv := vcN_le x hx
  have hp : 2 ^ vcN x ≤ 256 := Nat.pow_le_pow_right (n := 2) (j := 8) (by omega) hv
  intro f
  induction f with
  | zero =>
    intro i m hf hm hT h
    have h : P127 (nI u) (nI x) (nI m) (up2 st 17 8 (nI i)) := h
    refine h64 _ _ _ _ (s_next hT (fun c hc hc2 => M_valuesOf hx (M_inA (by omega) hv (fun q1 q2 => g1 ?_) (fun _ => g0 h))) (fun _ => M_valuesOf hx (M_inA (c := 0) (by omega) hv (fun q1 _ => absurd q1 (by omega)) (fun _ => g0 h))))
    refine s_next hT (fun d hd hd2 => ?_) (fun hd => ?_)
    · rw [hc] at hd
      have := Option.some.inj hd
      subst this
      rw [show nI c - (48 : Int32) = nI (c - 48) from pk_sub (b := 48) q1]
      refine s_has (by omega) ?_
      rw [b_nI m (by omega), full hx hm (by omega) (by omega)]
      exact g1 h
    · rw [hc] at hd; exact nomatch hd
  | succ f ih =>
    intro i m hf hm hT h
    refine h64 _ _ _ _ (s_next hT (fun c hc hc2 => M_valuesOf hx ?_) (fun hc => M_valuesOf hx ?_))
    · rw [valN_some hc] at h
      refine M_inA (by omega) hv (fun q1 q2 => g1 ?_) (fun q => g0 ?_)
      · have q1' : nI c - (48 : Int32) = nI (c - 48) := pk_sub (b := 48) q1
        refine s_next hT (fun d hd hd2 => ?_) (fun hd => ?_)
        · rw [hc] at hd
          have := Option.some.inj hd
          subst this
          rw [q1']
          refine s_has (by omega) ?_
          rw [b_nI m (by omega)]
          rcases hb : m.testBit (c - 48) with _ | _
          · rw [if_pos ⟨q1, q2, hb⟩] at h
            refine g0 (s_next hT (fun d hd hd2 => ?_) (fun hd => ?_))
            · rw [hc] at hd
              have := Option.some.inj hd
              subst this
              intro y hy
              rw [hy, q1', or_nI m (by omega) (c - 48) (by omega), mv8 st i 1 1 rfl]
              have hm1 := hT.mv (i' := i + 1) (tlt hc)
              rw [up2_up2] at hm1
              exact ih (i + 1) _ (by rw [popc_or m (by omega) (c - 48) (by omega) hb]; omega) (Nat.or_lt_two_pow hm (Nat.pow_lt_pow_right (by omega) (by omega))) hm1 h
            · rw [hc] at hd; exact nomatch hd
          · rw [if_neg (fun z => by have := z.2.2; rw [hb] at this; exact nomatch this)] at h
            exact g1 h
        · rw [hc] at hd; exact nomatch hd
      · rw [if_neg (fun z => q ⟨z.1, z.2.1⟩)] at h; exact h
    · rw [valN_none hc] at h
      exact M_inA (c := 0) (by omega) hv (fun q1 _ => absurd q1 (by omega)) (fun _ => g0 h)
theorem MD.last {st : St} {T : List Nat} {i p a x m : Nat} {L : List Rl} {r : Rl} {D : Nat → Pl} (h : MD st T i p (setD D p (a, L ++ [r]))) (hD : okD D) (hL : L.length < 8) (hx : x < 4) : MD (up2 st 20 (42 * p + 2 + 5 * L.length + 1 + x) (nI m)) T i p (setD D p (a, L ++ [setm r x m])) := by
  have hp := h.2.2.1
  have hM := h.2.2.2 p hp
  rw [setD_at] at hM
  have e : L ++ [setm r x m] = ((a, L ++ [r]) : Pl).2.set L.length (setm r x m) := by
    rw [show ((a, L ++ [r]) : Pl).2 = L ++ [r] from rfl, List.set_append_right _ _ (Nat.le_refl _), Nat.sub_self]; rfl
  have hr : ((a, L ++ [r]) : Pl).2[L.length]? = some r := by
    rw [show ((a, L ++ [r]) : Pl).2 = L ++ [r] from rfl, List.getElem?_append_right (Nat.le_refl _), Nat.sub_self]; rfl
  have hM2 : MP (fun j => upd (st 20) (42 * p + 2 + 5 * L.length + 1 + x) (nI m) (42 * p + j)) (a, L ++ [setm r x m]) := by
    rw [e]
    refine hM.setr hr ?_ ?_ (fun k c hk hne hc => ?_) (fun c hc => ?_)
    · show upd _ _ _ _ = _
      rw [upd_at, if_neg (by omega)]
    · show upd _ _ _ _ = _
      rw [upd_at, if_neg (by omega)]
    · show upd _ _ _ _ = _
      rw [upd_at, if_neg (by omega)]
    · show upd _ _ _ _ = _
      rw [upd_at, fld_setm r x m c hx hc]
      by_cases q : c = x + 1
      · rw [if_pos (by omega), if_pos q]
      · rw [if_neg (by omega), if_neg q]
        have := hM.2.2 L.length r hr c hc
        exact this
  have hw := h.wr (fun q hq e => by rw [setD_ne _ _ e]; exact (hD q hq).2.1) hM2 (fun j hj => by rw [upd_at, if_neg (by omega)])
  rw [setD_setD] at hw
  exact hw
theorem M_con {st0 : St} {T : List Nat} {p a : Nat} {L : List Rl} {D : Nat → Pl} {Q : Int32 → St → Prop} {P2 : Int32 → St → Prop} {P64 P127 : Int32 → Int32 → Int32 → St → Prop} (hp : p < 2) (hL : L.length < 8) (hD : okD D)
    (h2 : ∀ (x2 : Int32) (st : St), (wp_X5_next st (fun r_2 s_1 => (r_2 = (58 : Int32) → (wp_X5_next (up2 s_1 17 8 ((s_1 17 8) + (1 : Int32))) (fun r_4 s_3 => wp_X5_attributeOf r_4 s_3 (fun r_6 s_5 => (r_6 = (-4 : Int32) → (Q (0 : Int32) (up2 s_5 17 8 ((s_5 17 8) + (1 : Int32))))) ∧ (¬ r_6 = (-4 : Int32) → (wp_X5_has x2 r_6 (up2 s_5 17 8 ((s_5 17 8) + (1 : Int32))) (fun r_8 s_7 => (r_8 = 0 → (∀ x2_9 : Int32, x2_9 = x2 ||| ((1 : Int32) <<< (r_6 &&& (31 : Int32))) → P64 x2_9 r_6 (0 : Int32) s_7)) ∧ (¬ r_8 = 0 → (Q (0 : Int32) s_7))))))))) ∧ (¬ r_2 = (58 : Int32) → (Q (1 : Int32) s_1)))) → P2 x2 st)
    (h64 : ∀ (x2 : Int32) (x3 : Int32) (x4 : Int32) (st : St), (wp_X5_next st (fun r_14 s_13 => wp_X5_valuesOf x3 s_13 (fun r_16 s_15 => wp_X5_in r_14 (48 : Int32) (((48 : Int32) + r_16) - (1 : Int32)) s_15 (fun r_18 s_17 => (r_18 = 0 → (P127 x2 x3 x4 s_17)) ∧ (¬ r_18 = 0 → (wp_X5_next s_17 (fun r_20 s_19 => wp_X5_has x4 (r_20 - (48 : Int32)) s_19 (fun r_22 s_21 => (r_22 = 0 → (wp_X5_next s_21 (fun r_24 s_23 => ∀ x4_25 : Int32, x4_25 = x4 ||| ((1 : Int32) <<< ((r_24 - (48 : Int32)) &&& (31 : Int32))) → P64 x2 x3 x4_25 (up2 s_23 17 8 ((s_23 17 8) + (1 : Int32)))))) ∧ (¬ r_22 = 0 → (P127 x2 x3 x4 s_21)))))))))) → P64 x2 x3 x4 st)
    (h127 : ∀ (x2 : Int32) (x3 : Int32) (x4 : Int32) (st : St), ((x4 = 0 → (Q (0 : Int32) st)) ∧ (¬ x4 = 0 → (vp_in ((nI (42 * p + 2 + 5 * L.length) + (1 : Int32)) + x3) 84 ∧ (P2 x2 (up2 st 20 ((nI (42 * p + 2 + 5 * L.length) + (1 : Int32)) + x3).toNatClampNeg x4))))) → P127 x2 x3 x4 st) :
    ∀ (f i u : Nat) (r : Rl) (st : St), popc u + f = 4 → u < 16 → MD st T i p (setD D p (a, L ++ [r])) → FM st0 st →
    (∀ j r' s1, conN T f i u r = some (j, r') → MD s1 T j p (setD D p (a, L ++ [r'])) → FM st0 s1 → Q 1 s1) →
    (conN T f i u r = none → ∀ s1, FM st0 s1 → Q 0 s1) → P2 (nI u) st := by
  intro f
  induction f with
  | zero =>
    intro i u r st hu1 hu hM hF hs hf
    refine h2 _ _ (s_next hM.1 (fun c hc hc2 => pk_eq c 58 (fun q => ?_) (fun q => ?_)) (fun hc => ⟨fun c => absurd c (by decide), fun _ => hs i r st (conN_no (by rw [hc]; exact fun z => nomatch z)) hM hF⟩))
    · rw [q] at hc
      have hf := hf (if_pos hc)
      rw [hM.1.2.2.2.1, a1]
      have hM1 := hM.mv (i' := i + 1) (tlt hc)
      have hF1 : FM st0 (up2 st 17 8 (nI (i + 1))) := hF.mv (Or.inl rfl)
      refine s_next hM1.1 (fun d hd hd2 => s_attrOf (by omega) (fun x hx => ?_) (fun hx => ⟨fun _ => hf _ (hF1.mv (Or.inl rfl)), fun z => absurd rfl z⟩)) (fun hd => s_attrOf (c := 0) (by omega) (fun x hx => nomatch hx) (fun hx => ⟨fun _ => hf _ (hF1.mv (Or.inl rfl)), fun z => absurd rfl z⟩))
      have hx4 : x < 4 := (atT_lt (T := T) (i := i + 1) (a := x) (by unfold atT; rw [hd]; exact hx)).1
      refine ⟨fun _ => hf _ (hF1.mv (Or.inl rfl)), fun _ => s_has (by omega) ?_⟩
      rw [b_nI u (by omega), full4 u hu (by omega) x hx4]
      exact g1 (hf _ (hF1.mv (Or.inl rfl)))
    · exact hs i r st (conN_no (by rw [hc]; exact fun z => q (Option.some.inj z))) hM hF
  | succ f ih =>
    intro i u r st hu1 hu hM hF hs hf
    refine h2 _ _ (s_next hM.1 (fun c hc hc2 => pk_eq c 58 (fun q => ?_) (fun q => ?_)) (fun hc => ⟨fun c => absurd c (by decide), fun _ => hs i r st (conN_no (by rw [hc]; exact fun z => nomatch z)) hM hF⟩))
    · rw [q] at hc
      rw [hM.1.2.2.2.1, a1]
      have hM1 := hM.mv (i' := i + 1) (tlt hc)
      have hF1 : FM st0 (up2 st 17 8 (nI (i + 1))) := hF.mv (Or.inl rfl)
      refine s_next hM1.1 (fun d hd hd2 => s_attrOf (by omega) (fun x hx => ?_) (fun hx => ?_)) (fun hd => s_attrOf (c := 0) (by omega) (fun x hx => nomatch hx) (fun hx => ?_))
      · have e : atT T (i + 1) = some x := by unfold atT; rw [hd]; exact hx
        obtain ⟨hx4, hlt⟩ := atT_lt e
        rw [conN_go hc e] at hs hf
        rw [mv8 st (i + 1) 1 1 rfl]
        have hM2 := hM.mv (i' := i + 1 + 1) (by omega)
        have hF2 : FM st0 (up2 st 17 8 (nI (i + 1 + 1))) := hF.mv (Or.inl rfl)
        refine ⟨fun z => absurd z ?_, fun _ => s_has (by omega) ?_⟩
        · rcases (show x = 0 ∨ x = 1 ∨ x = 2 ∨ x = 3 by omega) with rfl | rfl | rfl | rfl <;> decide
        rw [b_nI u (by omega)]
        rcases hb : u.testBit x with _ | _
        · rw [if_neg (by rw [hb]; decide)] at hs hf
          refine g0 (fun y hy => ?_)
          rw [hy, or_nI u (by omega) x (by omega)]
          have hbd := valN_b (T := T) (n := vcN x) (vcN x) (i + 1 + 1) 0 (by omega) (Nat.two_pow_pos _)
          refine M_vals hx4 h64 (vcN x) (i + 1 + 1) 0 (by rw [show popc 0 = 0 from rfl]; omega) (Nat.two_pow_pos _) hM2.1 ?_
          have e2 : i + 1 + 1 = i + 2 := rfl
          have hM3 := hM.mv hbd.1.2
          have hF3 : FM st0 (up2 st 17 8 (nI (valN T (vcN x) (vcN x) (i + 1 + 1) 0).1)) := hF.mv (Or.inl rfl)
          rw [e2] at hM3 hF3 hbd ⊢
          have hv := vcN_le x hx4
          have hp2 : 2 ^ vcN x ≤ 256 := Nat.pow_le_pow_right (n := 2) (j := 8) (by omega) hv
          generalize valN T (vcN x) (vcN x) (i + 2) 0 = w at *
          refine h127 _ _ _ _ (pk_eq w.2 0 (fun q4 => ?_) (fun q4 => ?_))
          · rw [if_pos q4] at hf; exact hf rfl _ hF3
          · rw [if_neg q4] at hs hf
            rw [a1, nI_add, nI_clamp (by omega)]
            refine ⟨vp_in_nI (by omega) (by omega), ?_⟩
            exact ih w.1 (u ||| 2 ^ x) (setm r x w.2) _ (by rw [popc_or u (by omega) x (by omega) hb]; omega) (Nat.or_lt_two_pow (n := 4) hu (Nat.pow_lt_pow_right (by omega) hx4)) (hM3.last hD hL hx4) (by unfold up2; exact hF3.wr) hs hf
        · rw [if_pos hb] at hf
          exact g1 (hf rfl _ hF2)
      · have e : atT T (i + 1) = none := by unfold atT; rw [hd]; exact hx
        exact ⟨fun _ => hf (conN_at hc e) _ (hF1.mv (Or.inl rfl)), fun z => absurd rfl z⟩
      · have e : atT T (i + 1) = none := by unfold atT; rw [hd]; rfl
        exact ⟨fun _ => hf (conN_at hc e) _ (hF1.mv (Or.inl rfl)), fun z => absurd rfl z⟩
    · exact hs i r st (conN_no (by rw [hc]; exact fun z => q (Option.some.inj z))) hM hF
