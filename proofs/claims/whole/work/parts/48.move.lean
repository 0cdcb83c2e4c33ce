theorem st_moveRule {st : St} (hI : Inv st) (x y z : Int32) : wp_X4_moveRule x y z st (fun r1 s1 => wp_X5_moveRule x y z s1 (fun r2 s2 => r1 = r2 ∧ Inv s2)) := by
  obtain ⟨A, ho, hC, hM⟩ := id hI
  rcases rule_or ho x y with hb | ⟨p, n, r, hp, rfl, rfl, hr⟩
  · exact C_isR0 hC hb (g0 (fun P43 P91 P122 _ _ _ => M_isR0 hM ho hb (g0 ⟨rfl, hI⟩)))
  · have hP := ho.2.2.1 p hp
    have hi := ltl hr
    have hl := hP.2.1
    have hor := hP.2.2 n r hr
    refine C_isR1 hC ho hp hi (g1 ?_)
    rcases bad_or z (n := (A.2.1 p).2.length) (by omega) with hb | ⟨t, ht, rfl⟩
    · have hb2 : bad 2 (nI p) ∨ ∃ p', p' < 2 ∧ nI p = nI p' ∧ bad (A.2.1 p').2.length z := Or.inr ⟨p, hp, rfl, hb⟩
      exact C_isR0 hC hb2 (g0 (fun P43 P91 P122 _ _ _ => M_isR1 hM ho hp hi (g1 (M_isR0 hM ho hb2 (g0 ⟨rfl, hI⟩)))))
    · refine C_isR1 hC ho hp ht (g1 ⟨fun c P43 P91 P122 _ _ _ => M_isR1 hM ho hp hi (g1 (M_isR1 hM ho hp ht (g1 ⟨fun _ => ⟨rfl, hI⟩, fun c2 => absurd c c2⟩))), fun c => C_pn hp (s_remember (pc_pol hp) hC.2.2 (hC.2.1 p hp) (fun s1 f1 h1 => ?_))⟩)
      have hnt : n ≠ t := fun z => c (by rw [z])
      have hP1 : CPs s1 (2 * p + 1) (A.2.1 p) := (hC.2.1 p hp).congr (f1 _ (by omega) (by omega) (by omega)) (f1 _ (by omega) (by omega) (by omega))
      refine s_shiftRule hP1 hl hr ht (fun s2 f2 h2 => ?_)
      obtain ⟨hC2, hf2⟩ := hC.edit hp f1 h1 f2 h2
      have hM2 : MS s2 A := hM.same hf2
      have hle : ((A.2.1 p).2.eraseIdx n).length = (A.2.1 p).2.length - 1 := List.length_eraseIdx_of_lt hi
      have hli : (((A.2.1 p).2.eraseIdx n).insertIdx t r).length = (A.2.1 p).2.length := by rw [List.length_insertIdx_of_le_length (by omega), hle]; omega
      refine s_effectAt h2 (by show (((A.2.1 p).2.eraseIdx n).insertIdx t r).length ≤ 8; omega) (r := r) (by rw [List.getElem?_insertIdx, if_neg (by omega), if_pos rfl, if_pos (by omega)]) hor ?_
      intro P43 P91 P122 h43 h91 h122
      refine M_isR1 hM2 ho hp hi (g1 (M_isR1 hM2 ho hp ht (g1 ⟨fun c2 => absurd c2 c, fun _ => M_edit hM2 ho (fun s3 f3 e0 e5 hH x4 hx4 => ?_)⟩)))
      rw [m42, a2] at hx4
      subst hx4
      have e19 : s3 19 = s2 19 := f3 19 (by decide) (by decide)
      have hMr : ∀ c, c < 5 → s2 19 (42 * p + 2 + 5 * n + c) = nI (fld r c) := fun c hc => (hM2.2.1 p hp).at hr hc
      -- the last loop: the moved rule is laid at its place
      have fin : ∀ (m g : Nat → Int32) (src : Nat → Nat), (∀ c, c < 5 → m c = nI (fld r c)) → RW g (s2 19) p src → (∀ i, i < 8 → i ≠ t → src i = if i < t then (if i < n then i else i + 1) else (if i - 1 < n then i - 1 else i)) → P122 (nI (42 * p + 2)) 0 (upR (upR s3 24 m) 19 g) := by
        intro m g src hm hg hsrc
        have key : ∀ d i G, i + d = 5 → (∀ c, c < i → G (42 * p + 2 + 5 * t + c) = nI (fld r c)) → (∀ j, ¬ (42 * p + 2 + 5 * t ≤ j ∧ j < 42 * p + 2 + 5 * t + 5) → G j = g j) → P122 (nI (42 * p + 2)) (nI i) (upR (upR s3 24 m) 19 G) := by
          intro d
          induction d with
          | zero =>
            intro i G hi' q1 q2
            have : i = 5 := by omega
            subst this
            have q24 : (upR (upR s3 24 m) 19 G) 24 = m := by rw [upR_ne _ _ (by decide), upR_self]
            refine h122 _ _ _ ⟨fun _ => ⟨lit_in (n := 0) _ rfl (by omega) (by omega), ?_, Inv.of2 (ho.set hp (hP.mov hr ht)) hC2 (fun c hc => by rw [upR_ne _ _ (by omega), upR_ne _ _ (by omega), f3 c (by omega) (by omega)]) ?_⟩, fun c => absurd (by decide) c⟩
            · rw [show (0 : Int32).toNatClampNeg = 0 by decide, q24, hm 0 (by omega)]; rfl
            · refine hM2.edit hp f3 e0 e5 hH (fun c a b => by rw [upR_ne _ _ a, upR_ne _ _ b]) ?_ (fun j hj => ?_) ho
              · rw [upR_self]
                refine (hM2.2.1 p hp).mov hr ht ?_ ?_ (fun i c hi' hne hc => ?_) (fun c hc => ?_)
                · show G (42 * p + 0) = s2 19 (42 * p + 0)
                  rw [q2 _ (by omega), hg.2 _ (by omega)]
                · show G (42 * p + 1) = s2 19 (42 * p + 1)
                  rw [q2 _ (by omega), hg.2 _ (by omega)]
                · show G (42 * p + (2 + 5 * i + c)) = s2 19 (42 * p + (2 + 5 * _ + c))
                  rw [q2 _ (by omega), show 42 * p + (2 + 5 * i + c) = 42 * p + 2 + 5 * i + c by omega, hg.1 i c (by omega) hc, hsrc i (by omega) hne]
                  congr 1; omega
                · show G (42 * p + (2 + 5 * t + c)) = _
                  rw [show 42 * p + (2 + 5 * t + c) = 42 * p + 2 + 5 * t + c by omega]; exact q1 c hc
              · rw [upR_self, q2 _ (by omega), hg.2 _ (by omega)]
          | succ d ih =>
            intro i G hi' q1 q2
            have q24 : (upR (upR s3 24 m) 19 G) 24 = m := by rw [upR_ne _ _ (by decide), upR_self]
            refine h122 _ _ _ ?_
            rw [m5, nI_add, nI_add, nI_clamp (by omega), nI_clamp (by omega), q24, hm i (by omega)]
            refine ⟨fun c => absurd c (nI_ge (a := i) (b := 5) (by omega) (by omega)), fun _ => ⟨vp_in_nI (by omega) (by omega), vp_in_nI (by omega) (by omega), fun w hw => ?_⟩⟩
            rw [hw, a1, up2_upR]
            refine ih (i + 1) _ (by omega) (fun c hc => ?_) (fun j hj => ?_)
            · rw [upd_at]
              by_cases q : c = i
              · subst q; rw [if_pos rfl]
              · rw [if_neg (by omega)]; exact q1 c (by omega)
            · rw [upd_at, if_neg (by omega)]; exact q2 j hj
        exact key 5 0 g (by omega) (fun c hc => absurd hc (by omega)) (fun _ _ => rfl)
      -- upwards
      have up : ∀ (m : Nat → Int32), (∀ c, c < 5 → m c = nI (fld r c)) → n < t → ∀ d k g src, k + d = t → n ≤ k → RW g (s2 19) p src → (∀ i, i < 8 → src i = if n ≤ i ∧ i < k then i + 1 else i) → P91 (nI (42 * p + 2)) 1 (nI k) (upR (upR s3 24 m) 19 g) := by
        intro m hm hnt2 d
        induction d with
        | zero =>
          intro k g src hk hnk hg hsrc
          have : k = t := by omega
          subst this
          refine h91 _ _ _ _ ⟨fun _ => fin m g src hm hg (fun i hi' hne => ?_), fun c2 => absurd rfl c2⟩
          rw [hsrc i hi']
          by_cases q : i < k
          · rw [if_pos q]
            by_cases q2 : i < n
            · rw [if_pos q2, if_neg (by omega)]
            · rw [if_neg q2, if_pos (by omega)]
          · rw [if_neg q, if_neg (by omega), if_neg (by omega)]
        | succ d ih =>
          intro k g src hk hnk hg hsrc
          refine h91 _ _ _ _ ⟨fun c2 => absurd ((nI_eq (by omega) (by omega)).mp c2) (by omega), fun _ => ?_⟩
          rw [a1]
          refine M_copies hp (by omega) (by omega) (by omega) hg (fun g' hg' w hw => ?_)
          rw [hw]
          refine ih (k + 1) g' _ (by omega) (by omega) hg' (fun j hj => ?_)
          show (if j = k then src (k + 1) else src j) = _
          by_cases q : j = k
          · rw [if_pos q, hsrc (k + 1) (by omega), if_neg (by omega), if_pos (by omega)]; omega
          · rw [if_neg q, hsrc j hj]
            by_cases q2 : n ≤ j ∧ j < k
            · rw [if_pos q2, if_pos (by omega)]
            · rw [if_neg q2, if_neg (by omega)]
      have dn : ∀ (m : Nat → Int32), (∀ c, c < 5 → m c = nI (fld r c)) → t < n → ∀ d k g src, k = t + d → k ≤ n → RW g (s2 19) p src → (∀ i, i < 8 → src i = if k < i ∧ i ≤ n then i - 1 else i) → P91 (nI (42 * p + 2)) (-1) (nI k) (upR (upR s3 24 m) 19 g) := by
        intro m hm hnt2 d
        induction d with
        | zero =>
          intro k g src hk hnk hg hsrc
          have : k = t := by omega
          subst this
          refine h91 _ _ _ _ ⟨fun _ => fin m g src hm hg (fun i hi' hne => ?_), fun c2 => absurd rfl c2⟩
          rw [hsrc i hi']
          by_cases q : i < k
          · rw [if_neg (show ¬ (k < i ∧ i ≤ n) by omega), if_pos q, if_pos (show i < n by omega)]
          · rw [if_neg q]
            by_cases q2 : i - 1 < n
            · rw [if_pos (show k < i ∧ i ≤ n by omega), if_pos q2]
            · rw [if_neg (show ¬ (k < i ∧ i ≤ n) by omega), if_neg q2]
        | succ d ih =>
          intro k g src hk hnk hg hsrc
          refine h91 _ _ _ _ ⟨fun c2 => absurd ((nI_eq (by omega) (by omega)).mp c2) (by omega), fun _ => ?_⟩
          rw [show nI k + (-1 : Int32) = nI (k - 1) by have := pk_m1 (k - 1); rwa [show k - 1 + 1 = k by omega] at this]
          refine M_copies hp (by omega) (by omega) (by omega) hg (fun g' hg' w hw => ?_)
          rw [hw]
          refine ih (k - 1) g' _ (by omega) (by omega) hg' (fun j hj => ?_)
          show (if j = k then src (k - 1) else src j) = _
          by_cases q : j = k
          · rw [if_pos q, hsrc (k - 1) (by omega), if_neg (by omega), if_pos (by omega)]; omega
          · rw [if_neg q, hsrc j hj]
            by_cases q2 : k < j ∧ j ≤ n
            · rw [if_pos q2, if_pos (by omega)]
            · rw [if_neg q2, if_neg (by omega)]
      have key : ∀ d i m, i + d = 5 → (∀ c, c < i → m c = nI (fld r c)) → P43 (nI (42 * p + 2)) (nI i) (upR s3 24 m) := by
        intro d
        induction d with
        | zero =>
          intro i m hi' hm
          have : i = 5 := by omega
          subst this
          have q19 : (upR s3 24 m) 19 = s2 19 := by rw [upR_ne _ _ (by decide)]; exact e19
          have eI : upR s3 24 m = upR (upR s3 24 m) 19 (s2 19) := by rw [← q19, upR_id]
          refine h43 _ _ _ ⟨fun _ => ⟨fun c2 => ?_, fun c2 => ?_⟩, fun c => absurd (by decide) c⟩
          · have c2 : t ≤ n := (nI_leI (by omega) (by omega)).mp c2
            rw [eI]
            exact dn m hm (by omega) (n - t) n (s2 19) (fun j => j) (by omega) (Nat.le_refl _) (RW.rf _ _) (fun i hi' => by rw [if_neg (by omega)])
          · have c2 : n < t := Nat.not_le.mp (fun w => c2 (nI_le w (by omega)))
            rw [eI]
            exact up m hm c2 (t - n) n (s2 19) (fun j => j) (by omega) (Nat.le_refl _) (RW.rf _ _) (fun i hi' => by rw [if_neg (by omega)])
        | succ d ih =>
          intro i m hi' hm
          have q19 : (upR s3 24 m) 19 = s2 19 := by rw [upR_ne _ _ (by decide)]; exact e19
          refine h43 _ _ _ ?_
          rw [m5, nI_add, nI_add, nI_clamp (by omega), nI_clamp (by omega), q19, hMr i (by omega)]
          refine ⟨fun c => absurd c (nI_ge (a := i) (b := 5) (by omega) (by omega)), fun _ => ⟨vp_in_nI (by omega) (by omega), vp_in_nI (by omega) (by omega), fun w hw => ?_⟩⟩
          rw [hw, a1, up2_upR]
          refine ih (i + 1) _ (by omega) (fun c hc => ?_)
          rw [upd_at]
          by_cases q : c = i
          · subst q; rw [if_pos rfl]
          · rw [if_neg q]; exact hm c (by omega)
      have h0 := key 5 0 (s3 24) (by omega) (fun c hc => absurd hc (by omega))
      rw [upR_id] at h0
      exact h0
theorem toChr_nI {c : Nat} (h : c < 65536) : toChr (nI c) = nI c := by
  unfold toChr; rw [pk_char, pk_tn (by omega), Nat.mod_eq_of_lt h]
theorem nar_chr {c : Nat} (h : c < 65536) : vp_nar .char (nI c) = nI c := by
  rw [vp_nar_char]
  have e : (nI c).toUInt32.toUInt16.toUInt32.toInt32 = toChr (nI c) := by
    unfold toChr
    apply Int32.toBitVec_inj.mp
    apply BitVec.eq_of_toNat_eq
    show _ % _ = _ % _
    simp
    rfl
  rw [e, toChr_nI h]
theorem st_append {st : St} (hI : Inv st) (x : Int32) : wp_X4_append x st (fun r1 s1 => wp_X5_append x s1 (fun r2 s2 => r1 = r2 ∧ Inv s2)) := by
  obtain ⟨A, ho, hC, hM⟩ := id hI
  have hlen := ho.1
  have mbad : (x < 32 ∨ 126 < x) → wp_X5_append x st (fun r2 s2 => (-1 : Int32) = r2 ∧ Inv s2) := by
    intro hb
    refine ⟨fun _ => g0 ⟨rfl, hI⟩, fun c => ⟨fun _ => g0 ⟨rfl, hI⟩, fun c2 => ?_⟩⟩
    rcases hb with q | q
    · exact absurd q c
    · exact absurd q c2
  by_cases h1 : x < 32
  · exact ⟨fun _ => mbad (Or.inl h1), fun c => absurd h1 c⟩
  · refine ⟨fun c => absurd c h1, fun _ => ?_⟩
    by_cases h2 : x ≤ 126
    · refine ⟨fun _ => ?_, fun c => absurd h2 c⟩
      have h2' : ¬ (126 : Int32) < x := fun w => by
        have a := Int32.lt_iff_toInt_lt.mp w
        have b := Int32.le_iff_toInt_le.mp h2
        omega
      obtain ⟨c, hc, rfl⟩ : ∃ c, c < 127 ∧ x = nI c := by
        rcases bad_or x (n := 127) (by omega) with q | q
        · rcases q with q | q
          · exfalso
            apply h1
            have a := Int32.lt_iff_toInt_lt.mp q
            rw [Int32.lt_iff_toInt_lt]
            have e1 : (0 : Int32).toInt = 0 := rfl
            have e2 : (32 : Int32).toInt = 32 := rfl
            omega
          · exact absurd (bad_lt (n := 126) (by omega) q) h2'
        · exact q
      have hc32 : 32 ≤ c := by
        rcases Nat.lt_or_ge c 32 with q | q
        · exact absurd (nI_lt (b := 32) q (by omega)) h1
        · exact q
      rw [toChr_nI (by omega)]
      have e5 : st 5 4 = nI A.1.length := hC.1.1
      have e17 : st 17 0 = nI A.1.length := hM.1.1
      have min : ∀ {Q : Int32 → St → Prop} {s : St}, Q 1 s → wp_X5_in (nI c) 32 126 s Q := fun h => ⟨fun c => absurd c h1, fun _ => ⟨fun c => absurd c h2', fun _ => h⟩⟩
      unfold wp_X2_add
      rw [e5]
      refine ⟨fun q => absurd q (nI_pos (by omega)), fun _ => ⟨fun q => ?_, fun q => g0 ?_⟩⟩
      · have q : A.1.length < 240 := (nI_ltI (b := 240) (by omega) (by omega)).mp q
        rw [nI_clamp (by omega), nar_chr (by omega), up2_at, if_neg (by decide), e5, a1]
        refine ⟨vp_in_nI q (by omega), g1 ?_⟩
        show wp_X5_append (nI c) (up2 (up2 st 6 A.1.length (nI c)) 5 4 (nI (A.1.length + 1))) (fun r2 s2 => up2 (up2 st 6 A.1.length (nI c)) 5 4 (nI (A.1.length + 1)) 5 4 = r2 ∧ Inv s2)
        rw [up2_at, if_pos rfl, if_pos rfl]
        have f17 : ∀ c', 17 ≤ c' → up2 (up2 st 6 A.1.length (nI c)) 5 4 (nI (A.1.length + 1)) c' = st c' := fun c' h => by unfold up2; rw [upR_ne _ _ (by omega), upR_ne _ _ (by omega)]
        refine min (g1 ?_)
        rw [f17 17 (by decide), e17]
        refine ⟨fun z => absurd ((nI_eq (b := 240) (by omega) (by omega)).mp z) (by omega), fun _ => ?_⟩
        rw [nI_clamp (by omega)]
        have k17 : ∀ v, up2 (up2 (up2 st 6 A.1.length (nI c)) 5 4 (nI (A.1.length + 1))) 18 A.1.length v 17 0 = nI A.1.length := fun v => by rw [up2_at, if_neg (by decide), f17 17 (by decide)]; exact e17
        rw [k17, a1, up2_at, if_pos rfl, if_pos rfl]
        refine ⟨vp_in_nI q (by omega), rfl, (A.1 ++ [c], A.2), ⟨by show (A.1 ++ [c]).length ≤ 240; rw [List.length_append]; simp; omega, ?_, ho.2.2⟩, ⟨⟨?_, ?_⟩, ?_, ?_⟩, ⟨?_, ?_⟩, ?_, ?_, ?_⟩
        · intro j d hd
          have hd : (A.1 ++ [c])[j]? = some d := hd
          by_cases q2 : j < A.1.length
          · rw [List.getElem?_append_left q2] at hd; exact ho.2.1 j d hd
          · rw [List.getElem?_append_right (by omega)] at hd
            have := List.mem_singleton.mp (List.mem_of_getElem? hd)
            omega
        · show up2 (up2 (up2 (up2 st 6 A.1.length (nI c)) 5 4 (nI (A.1.length + 1))) 18 A.1.length (nI c)) 17 0 (nI (A.1.length + 1)) 5 4 = nI (A.1 ++ [c]).length
          rw [up2_at, if_neg (by decide), up2_at, if_neg (by decide), up2_at, if_pos rfl, if_pos rfl, List.length_append]; rfl
        · intro j d hd
          have hd : (A.1 ++ [c])[j]? = some d := hd
          show up2 (up2 (up2 (up2 st 6 A.1.length (nI c)) 5 4 (nI (A.1.length + 1))) 18 A.1.length (nI c)) 17 0 (nI (A.1.length + 1)) 6 j = nI d
          rw [up2_at, if_neg (by decide), up2_at, if_neg (by decide), up2_at, if_neg (by decide), up2_at, if_pos rfl]
          by_cases q2 : j < A.1.length
          · rw [List.getElem?_append_left q2] at hd; rw [if_neg (by omega)]; exact hC.1.2 j d hd
          · rw [List.getElem?_append_right (by omega)] at hd
            have hz : j - A.1.length < 1 := (List.getElem?_eq_some_iff.mp hd).1
            have := List.mem_singleton.mp (List.mem_of_getElem? hd)
            rw [if_pos (by omega), this]
        · intro p hp
          have hk : ∀ c', c' < 5 → up2 (up2 (up2 (up2 st 6 A.1.length (nI c)) 5 4 (nI (A.1.length + 1))) 18 A.1.length (nI c)) 17 0 (nI (A.1.length + 1)) c' = st c' := fun c' h => by unfold up2; rw [upR_ne _ _ (by omega), upR_ne _ _ (by omega), upR_ne _ _ (by omega), upR_ne _ _ (by omega)]
          exact (hC.2.1 p hp).congr (hk _ (by omega)) (hk _ (by omega))
        · have hk : ∀ c', 11 ≤ c' → c' < 14 → up2 (up2 (up2 (up2 st 6 A.1.length (nI c)) 5 4 (nI (A.1.length + 1))) 18 A.1.length (nI c)) 17 0 (nI (A.1.length + 1)) c' = st c' := fun c' h h' => by unfold up2; rw [upR_ne _ _ (by omega), upR_ne _ _ (by omega), upR_ne _ _ (by omega), upR_ne _ _ (by omega)]
          exact hC.2.2.congr (by rw [hk 11 (by omega) (by omega)]) (hk 12 (by omega) (by omega)) (hk 13 (by omega) (by omega))
        · show up2 (up2 (up2 (up2 st 6 A.1.length (nI c)) 5 4 (nI (A.1.length + 1))) 18 A.1.length (nI c)) 17 0 (nI (A.1.length + 1)) 17 0 = nI (A.1 ++ [c]).length
          rw [up2_at, if_pos rfl, if_pos rfl, List.length_append]; rfl
        · intro j d hd
          have hd : (A.1 ++ [c])[j]? = some d := hd
          show up2 (up2 (up2 (up2 st 6 A.1.length (nI c)) 5 4 (nI (A.1.length + 1))) 18 A.1.length (nI c)) 17 0 (nI (A.1.length + 1)) 18 j = nI d
          rw [up2_at, if_neg (by decide), up2_at, if_pos rfl, f17 18 (by decide)]
          by_cases q2 : j < A.1.length
          · rw [List.getElem?_append_left q2] at hd; rw [if_neg (by omega)]; exact hM.1.2 j d hd
          · rw [List.getElem?_append_right (by omega)] at hd
            have hz : j - A.1.length < 1 := (List.getElem?_eq_some_iff.mp hd).1
            have := List.mem_singleton.mp (List.mem_of_getElem? hd)
            rw [if_pos (by omega), this]
        · have hk : up2 (up2 (up2 (up2 st 6 A.1.length (nI c)) 5 4 (nI (A.1.length + 1))) 18 A.1.length (nI c)) 17 0 (nI (A.1.length + 1)) 19 = st 19 := by unfold up2; rw [upR_ne _ _ (by omega), upR_ne _ _ (by omega), upR_ne _ _ (by omega), upR_ne _ _ (by omega)]
          intro p hp
          unfold MPs; rw [hk]; exact hM.2.1 p hp
        · rw [up2_at, if_pos rfl, if_neg (by decide), up2_at, if_neg (by decide), f17 17 (by decide)]; exact hM.2.2.1
        · have hk : ∀ c', c' = 19 ∨ c' = 21 → up2 (up2 (up2 (up2 st 6 A.1.length (nI c)) 5 4 (nI (A.1.length + 1))) 18 A.1.length (nI c)) 17 0 (nI (A.1.length + 1)) c' = st c' := fun c' h => by unfold up2; rw [upR_ne _ _ (by omega), upR_ne _ _ (by omega), upR_ne _ _ (by omega), upR_ne _ _ (by omega)]
          unfold MH
          rw [hk 19 (Or.inl rfl), hk 21 (Or.inr rfl)]; exact hM.2.2.2
      · have q : A.1.length = 240 := by
          rcases Nat.lt_or_ge A.1.length 240 with w | w
          · exact absurd (nI_lt (b := 240) w (by omega)) q
          · omega
        refine min (g1 ?_)
        rw [e17, q]
        exact ⟨fun _ => ⟨rfl, hI⟩, fun z => absurd rfl z⟩
    · refine ⟨fun c => absurd c h2, fun _ => mbad (Or.inr ?_)⟩
      rw [Int32.lt_iff_toInt_lt]
      have : ¬ x.toInt ≤ (126 : Int32).toInt := fun w => h2 (Int32.le_iff_toInt_le.mpr w)
      omega
theorem st_clearText {st : St} (hI : Inv st) : wp_X4_clearText st (fun r1 s1 => wp_X5_clearText s1 (fun r2 s2 => r1 = r2 ∧ Inv s2)) := by
  obtain ⟨A, ho, hC, hM⟩ := id hI
  show wp_X5_clearText (up2 st 5 4 0) (fun r2 s2 => st 5 4 = r2 ∧ Inv s2)
  intro w hw
  rw [up2_at, if_neg (by decide)] at hw
  have hk : ∀ c, c ≠ 5 → c ≠ 17 → up2 (up2 st 5 4 0) 17 0 0 c = st c := fun c a b => by unfold up2; rw [upR_ne _ _ b, upR_ne _ _ a]
  refine ⟨by rw [hw, hC.1.1, hM.1.1], ([], A.2), ⟨by show 0 ≤ 240; omega, fun j c h => by simp at h, ho.2.2⟩, ⟨⟨?_, fun j c h => by simp at h⟩, fun p hp => ?_, ?_⟩, ⟨?_, fun j c h => by simp at h⟩, fun p hp => ?_, ?_, ?_⟩
  · rw [up2_at, if_neg (by decide), up2_at, if_pos rfl, if_pos rfl]; rfl
  · exact (hC.2.1 p hp).congr (hk _ (by omega) (by omega)) (hk _ (by omega) (by omega))
  · exact hC.2.2.congr (by rw [hk 11 (by omega) (by omega)]) (hk 12 (by omega) (by omega)) (hk 13 (by omega) (by omega))
  · rw [up2_at, if_pos rfl, if_pos rfl]; rfl
  · unfold MPs; rw [hk 19 (by omega) (by omega)]; exact hM.2.1 p hp
  · rw [up2_at, if_pos rfl, if_neg (by decide), up2_at, if_neg (by decide)]; exact hM.2.2.1
  · unfold MH; rw [hk 19 (by omega) (by omega), hk 21 (by omega) (by omega)]; exact hM.2.2.2
