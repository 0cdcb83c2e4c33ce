abbrev AS : Type := List Nat × (Nat → Pl) × List (Nat × Pl)
/-- the kept states, as the reference has them: the policy that was changed, and the other one as it stands behind it -/
def MH (st : St) (Hs : List (Nat × Pl)) : Prop := ∀ (i : Nat) (x : Nat × Pl), Hs[i]? = some x → MP (fun j => st 21 (84 * i + 42 * x.1 + j)) x.2 ∧ ∀ j, j < 42 → st 21 (84 * i + 42 * (1 - x.1) + j) = if i + 1 < Hs.length then st 21 (84 * (i + 1) + 42 * (1 - x.1) + j) else st 19 (42 * (1 - x.1) + j)
def okA (A : AS) : Prop := A.1.length ≤ 240 ∧ (∀ (j c : Nat), A.1[j]? = some c → 32 ≤ c ∧ c ≤ 126) ∧ (∀ p, p < 2 → okP (A.2.1 p)) ∧ A.2.2.length ≤ 4 ∧ ∀ (i : Nat) (x : Nat × Pl), A.2.2[i]? = some x → x.1 < 2 ∧ okP x.2
def CI (st : St) (A : AS) : Prop := (st 5 4 = nI A.1.length ∧ ∀ (j c : Nat), A.1[j]? = some c → st 6 j = nI c) ∧ (∀ p, p < 2 → CPs st (2 * p + 1) (A.2.1 p)) ∧ CH st A.2.2
def MS (st : St) (A : AS) : Prop := (st 17 0 = nI A.1.length ∧ ∀ (j c : Nat), A.1[j]? = some c → st 18 j = nI c) ∧ (∀ p, p < 2 → MPs st p (A.2.1 p)) ∧ st 17 5 = nI A.2.2.length ∧ MH st A.2.2
def Inv (st : St) : Prop := ∃ A, okA A ∧ CI st A ∧ MS st A
theorem CI.congr {st s1 : St} {A : AS} (h : CI st A) (h5 : s1 5 4 = st 5 4) (h6 : s1 6 = st 6) (hp : ∀ c, c < 5 → s1 c = st c) (h11 : s1 11 2 = st 11 2) (h12 : s1 12 = st 12) (h13 : s1 13 = st 13) : CI s1 A := by
  refine ⟨by rw [h5, h6]; exact h.1, fun p hp2 => (h.2.1 p hp2).congr (hp _ (by omega)) (hp _ (by omega)), h.2.2.congr h11 h12 h13⟩
theorem MS.congr {st s1 : St} {A : AS} (h : MS st A) (h0 : s1 17 0 = st 17 0) (h5 : s1 17 5 = st 17 5) (h18 : s1 18 = st 18) (h19 : s1 19 = st 19) (h21 : s1 21 = st 21) : MS s1 A := by
  refine ⟨by rw [h0, h18]; exact h.1, fun p hp => ?_, by rw [h5]; exact h.2.2.1, ?_⟩
  · unfold MPs; rw [h19]; exact h.2.1 p hp
  · unfold MH; rw [h19, h21]; exact h.2.2.2
def bad (n : Nat) (x : Int32) : Prop := x < 0 ∨ nI n ≤ x
theorem bad_or (x : Int32) {n : Nat} (hn : n < 2 ^ 31) : bad n x ∨ ∃ i, i < n ∧ x = nI i := by
  rcases pk_ix x hn with h | h | h
  · exact Or.inl (Or.inl h)
  · exact Or.inl (Or.inr h)
  · exact Or.inr h
theorem bad_ne {n i : Nat} {x : Int32} (hn : n < 2 ^ 31) (hi : i < n) (h : bad n x) : ¬ x = nI i := by
  intro e
  subst e
  rcases h with h | h
  · exact nI_pos (by omega) h
  · exact nI_ge hi hn h
theorem g1 {A B : Prop} (a : A) : ((1 : Int32) = 0 → B) ∧ (¬ (1 : Int32) = 0 → A) := ⟨fun c => absurd c (by decide), fun _ => a⟩
theorem g0 {A B : Prop} (b : B) : ((0 : Int32) = 0 → B) ∧ (¬ (0 : Int32) = 0 → A) := ⟨fun _ => b, fun c => absurd rfl c⟩
section GUARDS
variable {st : St} {Q : Int32 → St → Prop}
theorem C_isP1 {p : Nat} (hp : p < 2) (h : Q 1 st) : wp_X4_isPolicy (nI p) st Q := by
  rcases (show p = 0 ∨ p = 1 by omega) with rfl | rfl
  · exact ⟨fun _ => h, fun c => absurd rfl c⟩
  · exact ⟨fun c => absurd c (by decide), fun _ => ⟨fun _ => h, fun c => absurd rfl c⟩⟩
theorem C_isP0 {x : Int32} (hb : bad 2 x) (h : Q 0 st) : wp_X4_isPolicy x st Q :=
  ⟨fun c => absurd c (bad_ne (i := 0) (by omega) (by omega) hb), fun _ => ⟨fun c => absurd c (bad_ne (i := 1) (by omega) (by omega) hb), fun _ => h⟩⟩
theorem C_isE1 {p : Nat} (hp : p < 2) (h : Q 1 st) : wp_X4_isEffect (nI p) st Q := C_isP1 hp h
theorem C_isE0 {x : Int32} (hb : bad 2 x) (h : Q 0 st) : wp_X4_isEffect x st Q := C_isP0 hb h
theorem C_isA1 {p : Nat} (hp : p < 4) (h : Q 1 st) : wp_X4_isAttribute (nI p) st Q :=
  ⟨fun c => absurd c (nI_pos (by omega)), fun _ => ⟨fun c => absurd c (nI_ge (a := p) (b := 4) hp (by omega)), fun _ => h⟩⟩
theorem C_isA0 {x : Int32} (hb : bad 4 x) (h : Q 0 st) : wp_X4_isAttribute x st Q := by
  refine ⟨fun _ => h, fun c => ⟨fun _ => h, fun c2 => ?_⟩⟩
  rcases hb with q | q
  · exact absurd q c
  · exact absurd q c2
theorem C_isQ1 {p : Nat} (hp : p < 1024) (h : Q 1 st) : wp_X4_isRequest (nI p) st Q :=
  ⟨fun c => absurd c (nI_pos (by omega)), fun _ => ⟨fun c => absurd c (nI_ge (a := p) (b := 1024) hp (by omega)), fun _ => h⟩⟩
theorem C_isQ0 {x : Int32} (hb : bad 1024 x) (h : Q 0 st) : wp_X4_isRequest x st Q := by
  refine ⟨fun _ => h, fun c => ⟨fun _ => h, fun c2 => ?_⟩⟩
  rcases hb with q | q
  · exact absurd q c
  · exact absurd q c2
theorem bad_lt {n : Nat} {x : Int32} (hn : n + 1 < 2 ^ 31) (h : nI (n + 1) ≤ x) : nI n < x := by
  have h1 := Int32.le_iff_toInt_le.mp h
  rw [nI_toInt hn] at h1
  rw [Int32.lt_iff_toInt_lt, nI_toInt (by omega)]
  omega
theorem C_isD1 {p : Nat} (hp : p < 4) (h : Q 1 st) : wp_X4_isDecision (nI p) st Q :=
  ⟨fun c => absurd c (nI_pos (by omega)), fun _ => ⟨fun c => absurd c (nI_nlt (a := 3) (b := p) (by omega) (by omega)), fun _ => h⟩⟩
theorem C_isD0 {x : Int32} (hb : bad 4 x) (h : Q 0 st) : wp_X4_isDecision x st Q := by
  refine ⟨fun _ => h, fun c => ⟨fun _ => h, fun c2 => ?_⟩⟩
  rcases hb with q | q
  · exact absurd q c
  · exact absurd (bad_lt (n := 3) (by omega) q) c2
theorem M_in1 {i n : Nat} (hi : i ≤ n) (hn : n < 2 ^ 31) (h : Q 1 st) : wp_X5_in (nI i) 0 (nI n) st Q :=
  ⟨fun c => absurd c (nI_pos (by omega)), fun _ => ⟨fun c => absurd c (nI_nlt hi hn), fun _ => h⟩⟩
theorem M_in0 {n : Nat} {x : Int32} (hn : n + 1 < 2 ^ 31) (hb : bad (n + 1) x) (h : Q 0 st) : wp_X5_in x 0 (nI n) st Q := by
  refine ⟨fun _ => h, fun c => ⟨fun _ => h, fun c2 => ?_⟩⟩
  rcases hb with q | q
  · exact absurd q c
  · exact absurd (bad_lt hn q) c2
theorem M_isP1 {p : Nat} (hp : p < 2) (h : Q 1 st) : wp_X5_isPolicy (nI p) st Q := M_in1 (n := 1) (by omega) (by omega) ⟨Or.inr rfl, h⟩
theorem M_isP0 {x : Int32} (hb : bad 2 x) (h : Q 0 st) : wp_X5_isPolicy x st Q := M_in0 (n := 1) (by omega) hb ⟨Or.inl rfl, h⟩
theorem M_isQ1 {p : Nat} (hp : p < 1024) (h : Q 1 st) : wp_X5_isRequest (nI p) st Q := M_in1 (n := 1023) (by omega) (by omega) ⟨Or.inr rfl, h⟩
theorem M_isQ0 {x : Int32} (hb : bad 1024 x) (h : Q 0 st) : wp_X5_isRequest x st Q := M_in0 (n := 1023) (by omega) hb ⟨Or.inl rfl, h⟩
theorem C_pn {B : Nat → St → Prop} {p : Nat} (hp : p < 2) (h : B (2 * p + 1) st) : wp_X4_policyNumbered (nI p) st (fun k s => isPol k ∧ (B k s)) := by
  rcases (show p = 0 ∨ p = 1 by omega) with rfl | rfl
  · exact ⟨fun _ => ⟨Or.inl rfl, h⟩, fun c => absurd rfl c⟩
  · exact ⟨fun c => absurd c (by decide), fun _ => ⟨Or.inr (Or.inl rfl), h⟩⟩
theorem pc_pol {p : Nat} (hp : p < 2) : isPol (2 * p + 1) := by unfold isPol; omega
theorem C_isR1 {A : AS} {p i : Nat} (hC : CI st A) (ho : okA A) (hp : p < 2) (hi : i < (A.2.1 p).2.length) (h : Q 1 st) : wp_X4_isRule (nI p) (nI i) st Q := by
  have hl := (ho.2.2.1 p hp).2.1
  refine C_isP1 hp (g1 ⟨fun c => absurd c (nI_pos (by omega)), fun _ => C_pn hp ?_⟩)
  show (st (2 * p + 1) 1 ≤ nI i → _) ∧ _
  rw [(hC.2.1 p hp).1]
  exact ⟨fun c => absurd c (nI_ge hi (by omega)), fun _ => h⟩
theorem C_isR0 {A : AS} {x y : Int32} (hC : CI st A) (hb : bad 2 x ∨ ∃ p, p < 2 ∧ x = nI p ∧ bad (A.2.1 p).2.length y) (h : Q 0 st) : wp_X4_isRule x y st Q := by
  rcases hb with hb | ⟨p, hp, rfl, hb⟩
  · exact C_isP0 hb (g0 h)
  · refine C_isP1 hp (g1 ⟨fun _ => h, fun c => C_pn hp ?_⟩)
    show (st (2 * p + 1) 1 ≤ y → _) ∧ _
    rw [(hC.2.1 p hp).1]
    refine ⟨fun _ => h, fun c2 => ?_⟩
    rcases hb with q | q
    · exact absurd q c
    · exact absurd q c2
theorem M_isR1 {A : AS} {p i : Nat} (hM : MS st A) (ho : okA A) (hp : p < 2) (hi : i < (A.2.1 p).2.length) (h : Q 1 st) : wp_X5_isRule (nI p) (nI i) st Q := by
  have hl := (ho.2.2.1 p hp).2.1
  refine M_isP1 hp (g1 ?_)
  rw [m42, nI_clamp (by omega), show st 19 (42 * p) = nI (A.2.1 p).2.length from (hM.2.1 p hp).1]
  refine ⟨vp_in_nI (by omega) (by omega), ?_⟩
  have e : nI (A.2.1 p).2.length - 1 = nI ((A.2.1 p).2.length - 1) := pk_sub (b := 1) (by omega)
  rw [e]
  exact M_in1 (by omega) (by omega) (g1 h)
theorem M_isR0 {A : AS} {x y : Int32} (hM : MS st A) (ho : okA A) (hb : bad 2 x ∨ ∃ p, p < 2 ∧ x = nI p ∧ bad (A.2.1 p).2.length y) (h : Q 0 st) : wp_X5_isRule x y st Q := by
  rcases hb with hb | ⟨p, hp, rfl, hb⟩
  · exact M_isP0 hb (g0 h)
  · have hl := (ho.2.2.1 p hp).2.1
    refine M_isP1 hp (g1 ?_)
    rw [m42, nI_clamp (by omega), show st 19 (42 * p) = nI (A.2.1 p).2.length from (hM.2.1 p hp).1]
    refine ⟨vp_in_nI (by omega) (by omega), ?_⟩
    rcases Nat.eq_zero_or_pos (A.2.1 p).2.length with z | z
    · rw [z]
      refine ⟨fun _ => g0 h, fun c => ⟨fun _ => g0 h, fun c2 => ?_⟩⟩
      exfalso
      have h1 : (nI 0 - 1 : Int32) = -1 := by decide
      rw [h1] at c2
      have h2 : ¬ y.toInt < 0 := fun w => c (by rw [Int32.lt_iff_toInt_lt]; exact w)
      have h3 : ¬ (-1 : Int32).toInt < y.toInt := fun w => c2 (by rw [Int32.lt_iff_toInt_lt]; exact w)
      have h4 : (-1 : Int32).toInt = -1 := by decide
      omega
    · have e : nI (A.2.1 p).2.length - 1 = nI ((A.2.1 p).2.length - 1) := pk_sub (b := 1) (by omega)
      rw [e]
      refine M_in0 (by omega) ?_ (g0 h)
      rw [show (A.2.1 p).2.length - 1 + 1 = (A.2.1 p).2.length by omega]
      exact hb
theorem rule_or {A : AS} (ho : okA A) (x y : Int32) : (bad 2 x ∨ ∃ p, p < 2 ∧ x = nI p ∧ bad (A.2.1 p).2.length y) ∨ ∃ p i r, p < 2 ∧ x = nI p ∧ y = nI i ∧ (A.2.1 p).2[i]? = some r := by
  rcases bad_or x (n := 2) (by omega) with h | ⟨p, hp, e⟩
  · exact Or.inl (Or.inl h)
  · have hl := (ho.2.2.1 p hp).2.1
    rcases bad_or y (n := (A.2.1 p).2.length) (by omega) with h | ⟨i, hi, e2⟩
    · exact Or.inl (Or.inr ⟨p, hp, e, h⟩)
    · exact Or.inr ⟨p, i, _, hp, e, e2, List.getElem?_eq_getElem hi⟩
end GUARDS
theorem ltl {L : List Rl} {i : Nat} {r : Rl} (h : L[i]? = some r) : i < L.length := (List.getElem?_eq_some_iff.mp h).1
-- the plain questions
theorem st_ruleCount {st : St} (hI : Inv st) (x : Int32) : wp_X4_ruleCount x st (fun r1 s1 => wp_X5_ruleCount x s1 (fun r2 s2 => r1 = r2 ∧ Inv s2)) := by
  obtain ⟨A, ho, hC, hM⟩ := id hI
  rcases bad_or x (n := 2) (by omega) with hb | ⟨p, hp, rfl⟩
  · exact C_isP0 hb (g0 (M_isP0 hb (g0 ⟨rfl, hI⟩)))
  · refine C_isP1 hp (g1 (C_pn hp ?_))
    show wp_X5_ruleCount (nI p) st (fun r2 s2 => st (2 * p + 1) 1 = r2 ∧ Inv s2)
    refine M_isP1 hp (g1 ?_)
    rw [m42, nI_clamp (by omega), show st 19 (42 * p) = nI (A.2.1 p).2.length from (hM.2.1 p hp).1]
    exact ⟨vp_in_nI (by omega) (by omega), (hC.2.1 p hp).1, hI⟩
theorem st_algorithmOf {st : St} (hI : Inv st) (x : Int32) : wp_X4_algorithmOf x st (fun r1 s1 => wp_X5_algorithmOf x s1 (fun r2 s2 => r1 = r2 ∧ Inv s2)) := by
  obtain ⟨A, ho, hC, hM⟩ := id hI
  rcases bad_or x (n := 2) (by omega) with hb | ⟨p, hp, rfl⟩
  · exact C_isP0 hb (g0 (M_isP0 hb (g0 ⟨rfl, hI⟩)))
  · refine C_isP1 hp (g1 (C_pn hp ?_))
    show wp_X5_algorithmOf (nI p) st (fun r2 s2 => st (2 * p + 1) 2 = r2 ∧ Inv s2)
    refine M_isP1 hp (g1 ?_)
    rw [m42, a1, nI_clamp (by omega), show st 19 (42 * p + 1) = nI (A.2.1 p).1 from (hM.2.1 p hp).2.1]
    exact ⟨vp_in_nI (by omega) (by omega), (hC.2.1 p hp).2.1, hI⟩
theorem st_historySize {st : St} (hI : Inv st) : wp_X4_historySize st (fun r1 s1 => wp_X5_historySize s1 (fun r2 s2 => r1 = r2 ∧ Inv s2)) := by
  obtain ⟨A, ho, hC, hM⟩ := id hI
  show st 11 2 = st 17 5 ∧ Inv st
  exact ⟨by rw [hC.2.2.1, hM.2.2.1], hI⟩
theorem MPs.at {st : St} {p i c : Nat} {P : Pl} {r : Rl} (h : MPs st p P) (hr : P.2[i]? = some r) (hc : c < 5) : st 19 (42 * p + 2 + 5 * i + c) = nI (fld r c) := by
  have := h.2.2 i r hr c hc
  rw [← this]; congr 1; omega
theorem st_effectOf {st : St} (hI : Inv st) (x y : Int32) : wp_X4_effectOf x y st (fun r1 s1 => wp_X5_effectOf x y s1 (fun r2 s2 => r1 = r2 ∧ Inv s2)) := by
  obtain ⟨A, ho, hC, hM⟩ := id hI
  rcases rule_or ho x y with hb | ⟨p, i, r, hp, rfl, rfl, hr⟩
  · exact C_isR0 hC hb (g0 (M_isR0 hM ho hb (g0 ⟨rfl, hI⟩)))
  · have hP := ho.2.2.1 p hp
    have hi := ltl hr
    have hl := hP.2.1
    refine C_isR1 hC ho hp hi (g1 (C_pn hp (s_effectAt (hC.2.1 p hp) hl hr (hP.2.2 i r hr) ?_)))
    refine M_isR1 hM ho hp hi (g1 ?_)
    rw [m42, a2, m5, nI_add, nI_clamp (by omega), show st 19 (42 * p + 2 + 5 * i) = nI r.1 from (hM.2.1 p hp).at (c := 0) hr (by omega)]
    exact ⟨vp_in_nI (by omega) (by omega), rfl, hI⟩
theorem st_targetOf {st : St} (hI : Inv st) (x y z : Int32) : wp_X4_targetOf x y z st (fun r1 s1 => wp_X5_targetOf x y z s1 (fun r2 s2 => r1 = r2 ∧ Inv s2)) := by
  obtain ⟨A, ho, hC, hM⟩ := id hI
  rcases rule_or ho x y with hb | ⟨p, i, r, hp, rfl, rfl, hr⟩
  · exact C_isR0 hC hb (g0 (M_isR0 hM ho hb (g0 ⟨rfl, hI⟩)))
  · have hP := ho.2.2.1 p hp
    have hi := ltl hr
    have hl := hP.2.1
    rcases bad_or z (n := 4) (by omega) with hb | ⟨a, ha, rfl⟩
    · exact C_isR1 hC ho hp hi (g1 (C_isA0 hb (g0 (M_isR1 hM ho hp hi (g1 (M_in0 (n := 3) (by omega) hb (g0 ⟨rfl, hI⟩)))))))
    · refine C_isR1 hC ho hp hi (g1 (C_isA1 ha (g1 (C_pn hp (s_valuesAt (hC.2.1 p hp) hl hr (hP.2.2 i r hr) ha ?_)))))
      refine M_isR1 hM ho hp hi (g1 (M_in1 (n := 3) (by omega) (by omega) (g1 ?_)))
      rw [m42, a2, m5, nI_add, a1, nI_add, nI_clamp (by omega), show 42 * p + 2 + 5 * i + 1 + a = 42 * p + 2 + 5 * i + (a + 1) by omega, (hM.2.1 p hp).at (c := a + 1) hr (by omega)]
      exact ⟨vp_in_nI (by omega) (by omega), rfl, hI⟩
theorem st_decide {st : St} (hI : Inv st) (x y : Int32) : wp_X4_decide x y st (fun r1 s1 => wp_X5_decide x y s1 (fun r2 s2 => r1 = r2 ∧ Inv s2)) := by
  obtain ⟨A, ho, hC, hM⟩ := id hI
  rcases bad_or x (n := 2) (by omega) with hb | ⟨p, hp, rfl⟩
  · exact C_isP0 hb (g0 (M_isP0 hb (g0 ⟨rfl, hI⟩)))
  · have hP := ho.2.2.1 p hp
    rcases bad_or y (n := 1024) (by omega) with hb | ⟨q, hq, rfl⟩
    · exact C_isP1 hp (g1 (C_isQ0 hb (g0 (M_isP1 hp (g1 (M_isQ0 hb (g0 ⟨rfl, hI⟩)))))))
    · exact C_isP1 hp (g1 (C_isQ1 hq (g1 (C_pn hp (s_decOn (hC.2.1 p hp) hP hq (M_isP1 hp (g1 (M_isQ1 hq (g1 (s_decision hp (hM.2.1 p hp) hP hq ⟨rfl, hI⟩))))))))))
theorem st_applicableRules {st : St} (hI : Inv st) (x y : Int32) : wp_X4_applicableRules x y st (fun r1 s1 => wp_X5_applicableRules x y s1 (fun r2 s2 => r1 = r2 ∧ Inv s2)) := by
  obtain ⟨A, ho, hC, hM⟩ := id hI
  rcases bad_or x (n := 2) (by omega) with hb | ⟨p, hp, rfl⟩
  · exact C_isP0 hb (g0 (M_isP0 hb (g0 ⟨rfl, hI⟩)))
  · have hP := ho.2.2.1 p hp
    rcases bad_or y (n := 1024) (by omega) with hb | ⟨q, hq, rfl⟩
    · exact C_isP1 hp (g1 (C_isQ0 hb (g0 (M_isP1 hp (g1 (M_isQ0 hb (g0 ⟨rfl, hI⟩)))))))
    · exact C_isP1 hp (g1 (C_isQ1 hq (g1 (C_pn hp (s_applying (hC.2.1 p hp) hP.2.1 hq (s_bitCount (lt256 (apN_lt _ _) hP.2.1) (M_isP1 hp (g1 (M_isQ1 hq (g1 (s_rulesFor hp (hM.2.1 p hp) hP hq (s_bits ⟨rfl, hI⟩))))))))))))
