theorem reF_0 (f : Nat → Int32) (n x : Nat) (x3 : Int32) : reF f n x x3 0 = f := by funext j; unfold reF; rw [if_neg (by omega)]
theorem reF_s (f : Nat → Int32) (n x : Nat) (x3 : Int32) (i : Nat) : upd (reF f n x x3 i) (frN x + i) (upb (f (frN x + i)) ((x3 >>> (nI i &&& 31)) &&& 1) n) = reF f n x x3 (i + 1) := by
  funext j; unfold upd reF
  by_cases h : j = frN x + i
  · subst h; rw [if_pos rfl, if_pos (by omega), show frN x + i - frN x = i by omega]
  · rw [if_neg h]
    by_cases h2 : frN x ≤ j ∧ j < frN x + i
    · rw [if_pos h2, if_pos (by omega)]
    · rw [if_neg h2, if_neg (by omega)]
theorem reF_at (f : Nat → Int32) (n x : Nat) (x3 : Int32) (i : Nat) : reF f n x x3 i (frN x + i) = f (frN x + i) := by unfold reF; rw [if_neg (by omega)]
theorem s_restrict {k n x m : Nat} {P : Pl} {r : Rl} {st : St} {Q : St → Prop} (hP : CPs st k P) (hl : P.2.length ≤ 8) (hr : P.2[n]? = some r) (hx : x < 4) (hm : m < 256) (h : ∀ s1, fr st s1 k → CPs s1 k (P.1, P.2.set n (setm r x m)) → Q s1) : wp_X1_restrict k (nI n) (nI x) (nI m) st Q := by
  have hv := vcN_le x hx
  have hf := fvN_le x hx
  intro P10 h10
  have cx : (nI x).toNatClampNeg = x := nI_clamp (by omega)
  refine ⟨vp_in_nI hx (by omega), fun x4 hx4 => ?_⟩
  rw [cx, frF_N x hx] at hx4
  subst hx4
  have key : ∀ d i, i + d = vcN x → P10 (nI (frN x)) (nI i) (upR st (k + 1) (reF (st (k + 1)) n x (nI m) i)) := by
    intro d
    induction d with
    | zero =>
      intro i hi
      have : i = vcN x := by omega
      subst this
      refine h10 _ _ _ ⟨vp_in_nI hx (by omega), ?_⟩
      rw [cx, vcF_N x hx]
      refine ⟨fun _ => h _ ?_ ?_, fun c => absurd (nI_le (Nat.le_refl _) (by omega)) c⟩
      · intro c h1 h2; rw [upR_ne _ _ h2]
      · unfold CPs
        rw [upR_self, upR_at, if_neg (by omega), upR_at, if_neg (by omega)]
        exact hP.set hl hr hx hm
    | succ d ih =>
      intro i hi
      refine h10 _ _ _ ⟨vp_in_nI hx (by omega), ?_⟩
      rw [cx, vcF_N x hx]
      refine ⟨fun c => absurd c (nI_ge (by omega) (by omega)), fun _ b hb => ?_⟩
      rw [nI_add]
      refine ⟨vp_in_nI (by omega) (by omega), vp_in_nI (by omega) (by omega), fun z hz => ?_⟩
      rw [nI_clamp (by omega), up2_upR, hz, nI_1, upR_at, if_pos rfl, reF_at, hb]
      have e1 := reF_s (st (k + 1)) n x (nI m) i
      unfold upb at e1
      rw [e1]
      exact ih (i + 1) (by omega)
  have h0 := key (vcN x) 0 (by omega)
  rw [reF_0, upR_id] at h0
  exact h0
theorem mask_nI {y : Int32} {m w : Nat} (hw : w ≤ 31) (hm : m < 2 ^ w) (h1 : ∀ i, i < w → bt y i = m.testBit i) (h2 : ∀ i, w ≤ i → i < 32 → bt y i = false) : y = nI m := by
  apply b_ext
  intro i hi
  rw [b_nI m hi]
  by_cases h : i < w
  · exact h1 i h
  · rw [h2 i (by omega) hi]
    rw [Nat.testBit_lt_two_pow (Nat.lt_of_lt_of_le hm (Nat.pow_le_pow_right (by omega) (by omega : w ≤ i)))]
theorem fld_lt {r : Rl} (h : okR r) {x : Nat} (hx : x < 4) : fld r (x + 1) < 2 ^ vcN x := by
  obtain ⟨-, h0, h1, h2, h3⟩ := h
  rcases (show x = 0 ∨ x = 1 ∨ x = 2 ∨ x = 3 by omega) with rfl | rfl | rfl | rfl
  · exact h0
  · exact h1
  · exact h2
  · exact h3
theorem s_valuesAt {k n x : Nat} {P : Pl} {r : Rl} {st : St} {Q : Int32 → St → Prop} (hP : CPs st k P) (hl : P.2.length ≤ 8) (hr : P.2[n]? = some r) (ho : okR r) (hx : x < 4) (h : Q (nI (fld r (x + 1))) st) : wp_X1_valuesAt k (nI n) (nI x) st Q := by
  have hv := vcN_le x hx
  have hf := fvN_le x hx
  have hn := (List.getElem?_eq_some_iff.mp hr).1
  intro P12 h12
  have cx : (nI x).toNatClampNeg = x := nI_clamp (by omega)
  refine ⟨vp_in_nI hx (by omega), fun x4 hx4 => ?_⟩
  rw [cx, frF_N x hx] at hx4
  subst hx4
  have key : ∀ d i y, i + d = vcN x → (∀ a, a < i → bt y a = (fld r (x + 1)).testBit a) → (∀ a, i ≤ a → a < 32 → bt y a = false) → P12 (nI (frN x)) y (nI i) st := by
    intro d
    induction d with
    | zero =>
      intro i y hi h1 h2
      have : i = vcN x := by omega
      subst this
      refine h12 _ _ _ _ ⟨vp_in_nI hx (by omega), ?_⟩
      rw [cx, vcF_N x hx]
      refine ⟨fun _ => ?_, fun c => absurd (nI_le (Nat.le_refl _) (by omega)) c⟩
      rw [mask_nI (by omega) (fld_lt ho hx) h1 h2]
      exact h
    | succ d ih =>
      intro i y hi h1 h2
      refine h12 _ _ _ _ ⟨vp_in_nI hx (by omega), ?_⟩
      rw [cx, vcF_N x hx]
      refine ⟨fun c => absurd c (nI_ge (by omega) (by omega)), fun _ => ?_⟩
      rw [nI_add]
      refine ⟨vp_in_nI (by omega) (by omega), fun z hz w hw => ?_⟩
      rw [hw, nI_1]
      rw [nI_clamp (by omega)] at hz
      have hb : ∀ a, a < 32 → bt z a = (bt y a || (decide (i = a) && (fld r (x + 1)).testBit i)) := by
        intro a ha
        rw [hz, b_or, b_shl i (by omega) _ ha, b_bool (and1 _).1, (and1 _).2, shr1_bt _ (by omega), hP.2.2 _ (by omega) n (by omega)]
        unfold lb
        rw [hr]
        show (bt y a || (decide (i ≤ a) && (decide (a - i = 0) && rb r (frN x + i)))) = _
        rw [rb_attr r x i hx (by omega)]
        by_cases q : i = a
        · subst q; simp
        · by_cases q2 : i ≤ a
          · rw [decide_eq_false q, decide_eq_false (by omega : ¬ a - i = 0)]; simp
          · rw [decide_eq_false q, decide_eq_false q2]; simp
      refine ih (i + 1) z (by omega) (fun a ha => ?_) (fun a ha h32 => ?_)
      · rw [hb a (by omega)]
        by_cases q : i = a
        · subst q; rw [h2 i (by omega) (by omega)]; simp
        · rw [decide_eq_false q, h1 a (by omega)]; simp
      · rw [hb a h32, h2 a (by omega) h32, decide_eq_false (by omega : ¬ i = a)]; simp
  exact key (vcN x) 0 0 (by omega) (fun a ha => absurd ha (by omega)) (fun a _ _ => b_0 a)
theorem s_turnEffect {k n : Nat} {P : Pl} {r : Rl} {st : St} {Q : St → Prop} (hP : CPs st k P) (hl : P.2.length ≤ 8) (hr : P.2[n]? = some r) (ho : okR r) (h : ∀ s1, fr st s1 k → CPs s1 k (P.1, P.2.set n (1 - r.1, r.2)) → Q s1) : wp_X1_turnEffect k (nI n) st Q := by
  refine ⟨v24, v24, h _ ?_ ?_⟩
  · intro c h1 h2; unfold up2; rw [upR_ne _ _ h2]
  · unfold CPs
    have e1 : ∀ v, up2 st (k + 1) 24 v (k + 1) = upd (st (k + 1)) 24 v := fun v => by unfold up2; rw [upR_self]
    rw [c24, e1, up2_at, if_neg (by omega), up2_at, if_neg (by omega)]
    exact hP.flip hl hr ho.1 (fun j hj => by rw [upd_at, if_neg (by omega)]) (by rw [upd_at, if_pos rfl])
theorem s_effectAt {k n : Nat} {P : Pl} {r : Rl} {st : St} {Q : Int32 → St → Prop} (hP : CPs st k P) (hl : P.2.length ≤ 8) (hr : P.2[n]? = some r) (ho : okR r) (h : Q (nI r.1) st) : wp_X1_effectAt k (nI n) st Q := by
  have hn := (List.getElem?_eq_some_iff.mp hr).1
  refine ⟨v24, ?_⟩
  rw [c24]
  have h1 := and1 (st (k + 1) 24 >>> (nI n &&& 31))
  have h2 := h1.2
  rw [shr1_bt _ (by omega), hP.2.2 24 (by omega) n (by omega)] at h2
  unfold lb at h2
  rw [hr] at h2
  have h3 : decide (st (k + 1) 24 >>> (nI n &&& 31) &&& 1 = 1) = decide (r.1 = 1) := h2
  have h4 := decide_eq_decide.mp h3
  have ho1 := ho.1
  refine ⟨fun c => ?_, fun c => ?_⟩
  · have : r.1 = 0 := by
      rcases (show r.1 = 0 ∨ r.1 = 1 by omega) with z | z
      · exact z
      · have := h4.mpr z; rw [c] at this; exact absurd this (by decide)
    rw [this] at h; exact h
  · have : r.1 = 1 := by
      rcases h1.1 with z | z
      · exact absurd z c
      · exact h4.mp z
    rw [this] at h; exact h
theorem z0 : (0 : Int32).toNatClampNeg = 0 := by decide
theorem z25 : (25 : Int32).toNatClampNeg = 25 := by decide
theorem CP.ext {R R' : Nat → Int32} {cn ca : Int32} {P : Pl} (h : CP R cn ca P) (hR : ∀ j, j < 25 → R' j = R j) : CP R' cn ca P := ⟨h.1, h.2.1, fun j hj i hi => by rw [hR j hj]; exact h.2.2 j hj i hi⟩
theorem s_copyFrom {k k1 : Nat} {P : Pl} {st : St} {Q : St → Prop} (hk : isPol k) (hk1 : isPol k1) (hne : k ≠ k1) (hP : CPs st k1 P) (h : ∀ s1, fr st s1 k → CPs s1 k P → Q s1) : wp_X1_copyFrom k k1 st Q := by
  have h1 : k1 ≠ k + 1 := by unfold isPol at hk hk1; omega
  refine ⟨by rw [z0, z25]; decide, h _ ?_ ?_⟩
  · intro c q1 q2; unfold up2; rw [upR_ne _ _ q1, upR_ne _ _ q1, upR_ne _ _ q2]
  · rw [z0, z25]
    unfold CPs
    have e1 : ∀ f v w, up2 (up2 (upR st (k + 1) f) k 1 v) k 2 w (k + 1) = f := fun f v w => by unfold up2; rw [upR_ne _ _ (by omega), upR_ne _ _ (by omega), upR_self]
    rw [e1]
    simp only [up2_at, upR_at]
    simp only [if_true, if_neg (by omega : ¬ (1 : Nat) = 2), if_neg (Ne.symm hne), if_neg h1]
    exact CP.ext hP (fun j hj => by rw [pk_cpy_in (by omega) (by omega)]; congr 1; omega)
theorem s_fill {k : Nat} {v : Int32} {st : St} {Q : St → Prop} (h : Q (upR st (k + 1) (fun j => if j < 25 then v else st (k + 1) j))) : wp_J7_fill_53178 k v st Q := by
  intro P5 h5
  have key : ∀ d i, i + d = 25 → P5 (nI i) 25 (upR st (k + 1) (drF (fun _ => v) (st (k + 1)) i)) := by
    intro d
    induction d with
    | zero =>
      intro i hi
      have : i = 25 := by omega
      subst this
      exact h5 _ _ _ ⟨fun _ => h, fun c => absurd (by decide) c⟩
    | succ d ih =>
      intro i hi
      refine h5 _ _ _ ⟨fun c => absurd c (nI_ge (a := i) (b := 25) (by omega) (by omega)), fun _ => ⟨vp_in_nI (by omega) (by omega), fun x hx => ?_⟩⟩
      rw [nI_clamp (by omega), up2_upR, hx, nI_1]
      have e1 := drF_s (fun _ => v) (st (k + 1)) i
      rw [e1]
      exact ih (i + 1) (by omega)
  have h0 := key 25 0 (by omega)
  rw [drF_0, upR_id] at h0
  exact h0
theorem s_empty {k : Nat} {st : St} {Q : St → Prop} (h : ∀ s1, fr st s1 k → CPs s1 k (0, []) → Q s1) : wp_X1_empty k st Q := by
  refine s_fill (h _ ?_ ?_)
  · intro c q1 q2; unfold up2; rw [upR_ne _ _ q1, upR_ne _ _ q1, upR_ne _ _ q2]
  · unfold CPs
    have e1 : ∀ f v w, up2 (up2 (upR st (k + 1) f) k 1 v) k 2 w (k + 1) = f := fun f v w => by unfold up2; rw [upR_ne _ _ (by omega), upR_ne _ _ (by omega), upR_self]
    rw [e1]
    simp only [up2_at, upR_at]
    refine ⟨by simp; rfl, by simp; rfl, fun j hj i hi => ?_⟩
    show bt (if j < 25 then 0 else st (k + 1) j) i = _
    rw [if_pos hj, b_0]; rfl
theorem s_use {k a : Nat} {P : Pl} {st : St} {Q : St → Prop} (hP : CPs st k P) (h : ∀ s1, fr st s1 k → CPs s1 k (a, P.2) → Q s1) : wp_X1_use k (nI a) st Q := by
  refine h _ ?_ ?_
  · intro c q1 q2; unfold up2; rw [upR_ne _ _ q1]
  · unfold CPs
    have e1 : ∀ v, up2 st k 2 v (k + 1) = st (k + 1) := fun v => by unfold up2; rw [upR_ne _ _ (by omega)]
    rw [e1, up2_at, up2_at, if_pos rfl, if_pos rfl, if_neg (by omega), if_pos rfl]
    exact ⟨hP.1, rfl, hP.2.2⟩
