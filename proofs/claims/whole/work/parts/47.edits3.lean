theorem fld_setm (r : Rl) (x m c : Nat) (hx : x < 4) (hc : c < 5) : fld (setm r x m) c = if c = x + 1 then m else fld r c := by
  rcases (show x = 0 ∨ x = 1 ∨ x = 2 ∨ x = 3 by omega) with rfl | rfl | rfl | rfl <;> rcases (show c = 0 ∨ c = 1 ∨ c = 2 ∨ c = 3 ∨ c = 4 by omega) with rfl | rfl | rfl | rfl | rfl <;> rfl
theorem okR.setm {r : Rl} {x m : Nat} (h : okR r) (hx : x < 4) (hm : m < 2 ^ vcN x) : okR (setm r x m) := by
  obtain ⟨h0, h1, h2, h3, h4⟩ := h
  rcases (show x = 0 ∨ x = 1 ∨ x = 2 ∨ x = 3 by omega) with rfl | rfl | rfl | rfl
  · exact ⟨h0, hm, h2, h3, h4⟩
  · exact ⟨h0, h1, hm, h3, h4⟩
  · exact ⟨h0, h1, h2, hm, h4⟩
  · exact ⟨h0, h1, h2, h3, hm⟩
theorem vpow : ∀ a, a < 4 → (1 : Int32) <<< (nI (vcN a) &&& (31 : Int32)) = nI (2 ^ vcN a) ∧ 2 ^ vcN a ≤ 256 ∧ 2 ≤ 2 ^ vcN a := by decide
theorem st_setTarget {st : St} (hI : Inv st) (x y z v : Int32) : wp_X4_setTarget x y z v st (fun r1 s1 => wp_X5_setTarget x y z v s1 (fun r2 s2 => r1 = r2 ∧ Inv s2)) := by
  obtain ⟨A, ho, hC, hM⟩ := id hI
  rcases rule_or ho x y with hb | ⟨p, n, r, hp, rfl, rfl, hr⟩
  · exact C_isR0 hC hb (g0 (M_isR0 hM ho hb (g0 ⟨rfl, hI⟩)))
  · have hP := ho.2.2.1 p hp
    have hi := ltl hr
    have hl := hP.2.1
    have hor := hP.2.2 n r hr
    refine C_isR1 hC ho hp hi (g1 ?_)
    rcases bad_or z (n := 4) (by omega) with hb | ⟨a, ha, rfl⟩
    · exact C_isA0 hb (g0 (M_isR1 hM ho hp hi (g1 (M_in0 (n := 3) (by omega) hb (g0 ⟨rfl, hI⟩)))))
    · refine C_isA1 ha (g1 ?_)
      obtain ⟨vp, vq, vr⟩ := vpow a ha
      have em : nI (2 ^ vcN a) - (1 : Int32) = nI (2 ^ vcN a - 1) := pk_sub (b := 1) (by omega)
      have mbad : (v ≤ 0 ∨ nI (2 ^ vcN a) ≤ v) → wp_X5_setTarget (nI p) (nI n) (nI a) v st (fun r2 s2 => (-1 : Int32) = r2 ∧ Inv s2) := by
        intro hb
        refine M_isR1 hM ho hp hi (g1 (M_in1 (n := 3) (by omega) (by omega) (g1 (M_valuesOf ha ?_))))
        rw [vp, em]
        refine ⟨fun _ => g0 ⟨rfl, hI⟩, fun c => ⟨fun _ => g0 ⟨rfl, hI⟩, fun c2 => ?_⟩⟩
        exfalso
        rcases hb with q | q
        · have h1 := Int32.le_iff_toInt_le.mp q
          have h2 : ¬ v.toInt < (1 : Int32).toInt := fun w => c (Int32.lt_iff_toInt_lt.mpr w)
          have h3 : (1 : Int32).toInt = 1 := rfl
          have h4 : (0 : Int32).toInt = 0 := rfl
          omega
        · refine c2 (bad_lt (by omega) ?_)
          rw [show 2 ^ vcN a - 1 + 1 = 2 ^ vcN a by omega]; exact q
      by_cases hv : v ≤ 0 ∨ nI (2 ^ vcN a) ≤ v
      · refine ⟨fun _ => g0 (mbad hv), fun c => ?_⟩
        rw [nI_clamp (by omega), vcF_N a ha, vp]
        refine ⟨vp_in_nI ha (by omega), fun _ => g0 (mbad hv), fun c2 => ?_⟩
        rcases hv with q | q
        · exact absurd q c
        · exact absurd q c2
      · have hv1 : ¬ v ≤ 0 := fun q => hv (Or.inl q)
        have hv2 : ¬ nI (2 ^ vcN a) ≤ v := fun q => hv (Or.inr q)
        obtain ⟨m, hm, rfl⟩ : ∃ m, m < 2 ^ vcN a ∧ v = nI m := by
          rcases bad_or v (n := 2 ^ vcN a) (by omega) with q | q
          · rcases q with q | q
            · exact absurd (Int32.le_of_lt q) hv1
            · exact absurd q hv2
          · exact q
        have hm0 : 1 ≤ m := by
          rcases Nat.eq_zero_or_pos m with q | q
          · subst q; exact absurd (by decide) hv1
          · exact q
        refine ⟨fun c => absurd c hv1, fun _ => ?_⟩
        rw [nI_clamp (by omega), vcF_N a ha, vp]
        refine ⟨vp_in_nI ha (by omega), fun c => absurd c hv2, fun _ => g1 (C_pn hp (s_valuesAt (hC.2.1 p hp) hl hr hor ha ?_))⟩
        have hfl := fld_lt hor ha
        have eM : ∀ s, MS s A → s 19 (42 * p + 2 + 5 * n + 1 + a) = nI (fld r (a + 1)) := fun s h => by
          rw [show 42 * p + 2 + 5 * n + 1 + a = 42 * p + 2 + 5 * n + (a + 1) by omega]; exact (h.2.1 p hp).at hr (by omega)
        have min : ∀ {Q : Int32 → St → Prop} {s : St}, Q 1 s → wp_X5_in (nI m) 1 (nI (2 ^ vcN a - 1)) s Q := fun h =>
          ⟨fun c => absurd c (nI_nlt (a := m) (b := 1) hm0 (by omega)), fun _ => ⟨fun c => absurd c (nI_nlt (by omega) (by omega)), fun _ => h⟩⟩
        refine ⟨fun c => ?_, fun c => ?_⟩
        · refine M_isR1 hM ho hp hi (g1 (M_in1 (n := 3) (by omega) (by omega) (g1 (M_valuesOf ha ?_))))
          rw [vp, em]
          refine min (g1 (fun w hw => ?_))
          rw [m42, a2, m5, nI_add, a1, nI_add] at hw
          subst hw
          rw [nI_clamp (by omega)]
          refine ⟨vp_in_nI (by omega) (by omega), fun u hu => ?_⟩
          rw [eM st hM] at hu
          rw [hu]
          exact ⟨fun _ => ⟨rfl, hI⟩, fun c2 => absurd c c2⟩
        · refine s_remember (pc_pol hp) hC.2.2 (hC.2.1 p hp) (fun s1 f1 h1 => ?_)
          have hP1 : CPs s1 (2 * p + 1) (A.2.1 p) := (hC.2.1 p hp).congr (f1 _ (by omega) (by omega) (by omega)) (f1 _ (by omega) (by omega) (by omega))
          refine s_restrict hP1 hl hr ha (by omega) (fun s2 f2 h2 => ?_)
          obtain ⟨hC2, hf2⟩ := hC.edit hp f1 h1 f2 h2
          have hM2 : MS s2 A := hM.same hf2
          refine M_isR1 hM2 ho hp hi (g1 (M_in1 (n := 3) (by omega) (by omega) (g1 (M_valuesOf ha ?_))))
          rw [vp, em]
          refine min (g1 (fun w hw => ?_))
          rw [m42, a2, m5, nI_add, a1, nI_add] at hw
          subst hw
          rw [nI_clamp (by omega)]
          refine ⟨vp_in_nI (by omega) (by omega), fun u hu => ?_⟩
          rw [eM s2 hM2] at hu
          rw [hu]
          refine ⟨fun c2 => absurd c2 c, fun _ => M_edit hM2 ho (fun s3 f3 e0 e5 hH => ⟨vp_in_nI (by omega) (by omega), rfl, Inv.of2 (ho.set hp (hP.setr (hor.setm ha hm))) hC2 (fun c hc => by unfold up2; rw [upR_ne _ _ (by omega), f3 c (by omega) (by omega)]) ?_⟩)⟩
          have e19 : s3 19 = s2 19 := f3 19 (by decide) (by decide)
          have q19 : ∀ v, up2 s3 19 (42 * p + 2 + 5 * n + 1 + a) v 19 = upd (s2 19) (42 * p + 2 + 5 * n + 1 + a) v := fun v => by unfold up2; rw [upR_self, e19]
          refine hM2.edit hp f3 e0 e5 hH (fun c a b => by unfold up2; rw [upR_ne _ _ a]) ?_ (fun j hj => ?_) ho
          · rw [q19]
            refine (hM2.2.1 p hp).setr hr ?_ ?_ (fun i c hi hne hc => ?_) (fun c hc => ?_)
            · show upd (s2 19) (42 * p + 2 + 5 * n + 1 + a) _ (42 * p + 0) = _
              rw [upd_at, if_neg (by omega)]
            · show upd (s2 19) (42 * p + 2 + 5 * n + 1 + a) _ (42 * p + 1) = _
              rw [upd_at, if_neg (by omega)]
            · show upd (s2 19) (42 * p + 2 + 5 * n + 1 + a) _ (42 * p + (2 + 5 * i + c)) = _
              rw [upd_at, if_neg (by omega)]
            · show upd (s2 19) (42 * p + 2 + 5 * n + 1 + a) _ (42 * p + (2 + 5 * n + c)) = _
              rw [fld_setm r a m c ha hc]
              by_cases q : c = a + 1
              · rw [if_pos q, upd_at, if_pos (by omega)]
              · rw [if_neg q, upd_at, if_neg (by omega), show 42 * p + (2 + 5 * n + c) = 42 * p + 2 + 5 * n + c by omega]
                exact (hM2.2.1 p hp).at hr hc
          · rw [q19, upd_at, if_neg (by omega)]
theorem st_undo {st : St} (hI : Inv st) : wp_X4_undo st (fun r1 s1 => wp_X5_undo s1 (fun r2 s2 => r1 = r2 ∧ Inv s2)) := by
  obtain ⟨A, ho, hC, hM⟩ := id hI
  obtain ⟨txt, pol, Hs⟩ := A
  have hle : Hs.length ≤ 4 := ho.2.2.2.1
  have e11 : st 11 2 = nI Hs.length := hC.2.2.1
  have e17 : st 17 5 = nI Hs.length := hM.2.2.1
  show (st 11 2 = 0 → _) ∧ (¬ st 11 2 = 0 → _)
  rw [e11]
  refine ⟨fun c P22 _ => ?_, fun c => ?_⟩
  · rw [e17]; exact ⟨fun _ => ⟨rfl, hI⟩, fun c2 => absurd c c2⟩
  · have hne : Hs ≠ [] := fun z => c (by rw [z]; rfl)
    obtain ⟨H0, ⟨p, P⟩, rfl⟩ : ∃ H0 x, Hs = H0 ++ [x] := ⟨Hs.dropLast, Hs.getLast hne, (List.dropLast_concat_getLast hne).symm⟩
    have hlen : (H0 ++ [(p, P)]).length = H0.length + 1 := by rw [List.length_append]; rfl
    rw [hlen] at hle e11 e17
    have hlast : (H0 ++ [(p, P)])[H0.length]? = some (p, P) := by rw [List.getElem?_append_right (Nat.le_refl _), Nat.sub_self]; rfl
    obtain ⟨hp, hP⟩ := ho.2.2.2.2 H0.length (p, P) hlast
    have hp : p < 2 := hp
    have hl := hP.2.1
    have e12 : st 12 H0.length = nI p := (hC.2.2.2.2 _ _ hlast).1
    refine ⟨fun c2 => absurd (by rw [e11] at c2; exact c2) (nI_nle (by omega) (by omega)), fun _ => ?_⟩
    rw [e11, nI_pred, nI_clamp (by omega), e12]
    refine ⟨vp_in_nI (by omega) (by omega), C_pn hp (s_recall (pc_pol hp) hC.2.2 (fun s1 f1 h1 h2 => ?_))⟩
    show wp_X5_undo s1 (fun r2 s2 => s1 11 2 = r2 ∧ Inv s2)
    rw [h1.1]
    let A' : AS := (txt, fun x => if x = p then P else pol x, H0)
    have ho' : okA A' := by
      refine ⟨ho.1, ho.2.1, fun x hx => ?_, by show H0.length ≤ 4; omega, fun i x hx => ?_⟩
      · show okP (if x = p then P else pol x)
        split
        · exact hP
        · exact ho.2.2.1 x hx
      · exact ho.2.2.2.2 i x (by show (H0 ++ [(p, P)])[i]? = some x; rw [List.getElem?_append_left ((List.getElem?_eq_some_iff.mp hx).1)]; exact hx)
    have hC' : CI s1 A' := by
      refine ⟨?_, fun x hx => ?_, h1⟩
      · rw [f1 5 (by omega) (by omega) (by omega), f1 6 (by omega) (by omega) (by omega)]; exact hC.1
      · show CPs s1 (2 * x + 1) (if x = p then P else pol x)
        by_cases e : x = p
        · subst e; rw [if_pos rfl]; exact h2
        · rw [if_neg e]
          exact (hC.2.1 x hx).congr (f1 _ (by omega) (by omega) (by omega)) (f1 _ (by omega) (by omega) (by omega))
    have hf : ∀ c, 17 ≤ c → s1 c = st c := fun c hc => f1 c (by omega) (by omega) (by omega)
    intro P22 h22
    rw [hf 17 (by decide), e17, nI_pred]
    refine ⟨fun c2 => absurd ((nI0 (by omega)).mp c2) (by omega), fun _ => ?_⟩
    have hH : MHf (st 21) (st 19) (H0 ++ [(p, P)]) := hM.2.2.2
    obtain ⟨hl1, hl2⟩ := hH H0.length (p, P) hlast
    have hl2 : ∀ j, j < 42 → st 21 (84 * H0.length + 42 * (1 - p) + j) = st 19 (42 * (1 - p) + j) := fun j hj => by
      have := hl2 j hj
      rw [hlen, if_neg (by omega)] at this
      exact this
    have s17 : ∀ g, (upR (up2 s1 17 5 (nI H0.length)) 19 g) 17 5 = nI H0.length := fun g => by rw [upR_at, if_neg (by decide), up2_at, if_pos rfl, if_pos rfl]
    have s21 : ∀ g, (upR (up2 s1 17 5 (nI H0.length)) 19 g) 21 = st 21 := fun g => by rw [upR_ne _ _ (by decide)]; unfold up2; rw [upR_ne _ _ (by decide), hf 21 (by decide)]
    have key : ∀ d i, i + d = 84 → P22 (nI i) (upR (up2 s1 17 5 (nI H0.length)) 19 (fun j => if j < i then st 21 (84 * H0.length + j) else s1 19 j)) := by
      intro d
      induction d with
      | zero =>
        intro i hi
        have : i = 84 := by omega
        subst this
        refine h22 _ _ ⟨fun _ => ⟨(s17 _).symm, Inv.of2 ho' hC' (fun c hc => by rw [upR_ne _ _ (by omega)]; unfold up2; rw [upR_ne _ _ (by omega)]) ?_⟩, fun c => absurd (by decide) c⟩
        refine ⟨?_, fun x hx => ?_, s17 _, ?_⟩
        · rw [upR_at, if_neg (by decide), up2_at, if_pos rfl, if_neg (by decide), upR_ne _ _ (by decide)]
          unfold up2
          rw [upR_ne _ _ (by decide), hf 17 (by decide), hf 18 (by decide)]; exact hM.1
        · show MP (fun j => (upR (up2 s1 17 5 (nI H0.length)) 19 (fun j => if j < 84 then st 21 (84 * H0.length + j) else s1 19 j)) 19 (42 * x + j)) (if x = p then P else pol x)
          rw [upR_self]
          by_cases e : x = p
          · subst e; rw [if_pos rfl]
            refine hl1.ext hl (fun j hj => ?_)
            show (if 42 * x + j < 84 then st 21 (84 * H0.length + (42 * x + j)) else _) = st 21 (84 * H0.length + 42 * x + j)
            rw [if_pos (by omega)]; congr 1; omega
          · rw [if_neg e]
            have hx1 : x = 1 - p := by omega
            subst hx1
            refine (hM.2.1 _ hx).ext (ho.2.2.1 _ hx).2.1 (fun j hj => ?_)
            show (if 42 * (1 - p) + j < 84 then st 21 (84 * H0.length + (42 * (1 - p) + j)) else _) = st 19 (42 * (1 - p) + j)
            rw [if_pos (by omega), ← hl2 j hj]; congr 1; omega
        · show MHf ((upR (up2 s1 17 5 (nI H0.length)) 19 (fun j => if j < 84 then st 21 (84 * H0.length + j) else s1 19 j)) 21) ((upR (up2 s1 17 5 (nI H0.length)) 19 (fun j => if j < 84 then st 21 (84 * H0.length + j) else s1 19 j)) 19) H0
          rw [s21, upR_self]
          intro i x hx
          have hi := (List.getElem?_eq_some_iff.mp hx).1
          have hx' : (H0 ++ [(p, P)])[i]? = some x := by rw [List.getElem?_append_left hi]; exact hx
          obtain ⟨q1, q2⟩ := hH i x hx'
          have hx2 : x.1 < 2 := (ho.2.2.2.2 i x hx').1
          refine ⟨q1, fun j hj => ?_⟩
          rw [q2 j hj, hlen, if_pos (by omega)]
          by_cases q : i + 1 < H0.length
          · rw [if_pos q]
          · rw [if_neg q]
            show _ = if 42 * (1 - x.1) + j < 84 then st 21 (84 * H0.length + (42 * (1 - x.1) + j)) else _
            rw [if_pos (by omega)]; congr 1; omega
      | succ d ih =>
        intro i hi
        refine h22 _ _ ?_
        rw [s17, s21, m84, nI_add, nI_clamp (by omega), nI_clamp (by omega)]
        refine ⟨fun c => absurd c (nI_ge (a := i) (b := 84) (by omega) (by omega)), fun _ => ⟨vp_in_nI (by omega) (by omega), vp_in_nI (by omega) (by omega), fun y hy => ?_⟩⟩
        rw [hy, a1, up2_upR]
        have e : upd (fun j => if j < i then st 21 (84 * H0.length + j) else s1 19 j) i (st 21 (84 * H0.length + i)) = fun j => if j < i + 1 then st 21 (84 * H0.length + j) else s1 19 j := by
          funext j; unfold upd
          by_cases q : j = i
          · subst q; rw [if_pos rfl, if_pos (by omega)]
          · rw [if_neg q]
            show (if j < i then _ else _) = _
            by_cases q2 : j < i
            · rw [if_pos q2, if_pos (by omega)]
            · rw [if_neg q2, if_neg (by omega)]
        rw [e]
        exact ih (i + 1) (by omega)
    have h0 := key 84 0 (by omega)
    have e : (fun j => if j < 0 then st 21 (84 * H0.length + j) else s1 19 j) = up2 s1 17 5 (nI H0.length) 19 := by
      funext j; rw [if_neg (by omega)]; unfold up2; rw [upR_ne _ _ (by decide)]
    rw [e, upR_id] at h0
    exact h0
