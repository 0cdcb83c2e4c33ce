/-- no request gains where the new policy keeps the rules K -/
def noG (P Po : Pl) (K : Nat) : Prop := ∀ q, q < 1024 → ¬ dN Po q = 0 → ¬ decN P.1 (denN P.2) (apN P.2 q &&& K) = 0
def kp (M R : Nat) : Nat := M ^^^ (M &&& R)
theorem kp_self (M : Nat) : kp M M = 0 := by unfold kp; rw [Nat.and_self, Nat.xor_self]
def Best (P Po : Pl) (M b : Nat) : Prop := b ≤ M ∧ noG P Po (kp M b) ∧ ∀ R, R ≤ M → noG P Po (kp M R) → popc b < popc R ∨ (popc b = popc R ∧ b ≤ R)
theorem Best.one {P Po : Pl} {M b b' : Nat} (h : Best P Po M b) (h' : Best P Po M b') : b = b' := by
  have h1 := h.2.2 b' h'.1 h'.2.1
  have h2 := h'.2.2 b h.1 h.2.1
  omega
theorem noG_all (P Po : Pl) (M : Nat) : noG P Po (kp M M) := by
  intro q _ _ h
  rw [kp_self, Nat.and_zero] at h
  unfold decN at h
  rw [if_pos rfl] at h
  exact absurd h (by decide)
theorem C_any {k K : Nat} {F : Nat → Bool} {P : Pl} {st : St} {Q : Int32 → St → Prop} (hP : CPs st k P) (ho : okP P) (hR : RI st F) (h1 : (∃ v, v < 256 ∧ F v = true ∧ decN P.1 (denN P.2) (v &&& K) = 0) → Q 1 st) (h0 : (∀ v, v < 256 → F v = true → ¬ decN P.1 (denN P.2) (v &&& K) = 0) → Q 0 st) : wp_X3_anyGranted k (nI K) st Q := by
  obtain ⟨r1, r2, r3, r4⟩ := hR
  have hle := cnt_le F 256
  intro P3 h3
  have key : ∀ d i, i + d = cnt F 256 → (∀ j v, j < i → v < 256 → st 15 j = nI v → ¬ decN P.1 (denN P.2) (v &&& K) = 0) → P3 (nI i) st := by
    intro d
    induction d with
    | zero =>
      intro i hi hq
      refine h3 _ _ ?_
      rw [r1]
      refine ⟨fun _ => h0 (fun v hv hf => ?_), fun c => absurd (nI_le (by omega) (by omega)) c⟩
      obtain ⟨j, j1, j2⟩ := r4 v hv hf
      exact hq j v (by omega) hv j2
    | succ d ih =>
      intro i hi hq
      refine h3 _ _ ?_
      rw [r1]
      obtain ⟨v, v1, v2, v3⟩ := r3 i (by omega)
      rw [nI_clamp (by omega), v3, nx_and]
      have d1 := decN_le P.1 (denN P.2) (v &&& K)
      refine ⟨fun c => absurd c (nI_ge (by omega) (by omega)), fun _ => ⟨vp_in_nI (by omega) (by omega), s_decAmong hP ho (and_lt v1) ⟨fun c => h1 ⟨v, v1, v2, (nI0 (by omega)).mp c⟩, fun c y hy => ?_⟩⟩⟩
      rw [hy, a1]
      refine ih (i + 1) (by omega) (fun j w hj hw e => ?_)
      by_cases ej : j = i
      · subst ej
        rw [v3] at e
        have := (nI_eq (by omega) (by omega)).mp e
        subst this
        exact fun z => c (by rw [z]; rfl)
      · exact hq j w (by omega) hw e
  exact key (cnt F 256) 0 (by omega) (fun j v hj => absurd hj (by omega))
theorem pw8 {n : Nat} (h : n ≤ 8) : 0 < 2 ^ n ∧ 2 ^ n ≤ 256 := ⟨Nat.pow_pos (by omega), Nat.pow_le_pow_right (n := 2) (by omega) h⟩
theorem C_least {A : AS} {st : St} {Q : Int32 → St → Prop} (hC : CI st A) (ho : okA A) (h : ∀ b s1, Best (A.2.1 1) (A.2.1 0) (2 ^ (A.2.1 1).2.length - 1) b → (∀ c, c ≠ 14 → c ≠ 15 → c ≠ 16 → s1 c = st c) → Q (nI b) s1) : wp_X4_leastRemoval st Q := by
  have hP := ho.2.2.1 1 (by omega)
  have hPo := ho.2.2.1 0 (by omega)
  have hl := hP.2.1
  have hpw := pw8 hl
  intro P9 P65 h9 h65
  refine C_rsEmpty (fun s0 f0 r0 => ?_)
  have key : ∀ d q s, q + d = 1024 → (∀ c, c ≠ 14 → c ≠ 15 → c ≠ 16 → s c = st c) → RI s (FQ (fun q => !decide (dN (A.2.1 0) q = 0)) (A.2.1 1).2 q) → P9 (nI q) s := by
    intro d
    induction d with
    | zero =>
      intro q s hq hf hR
      have : q = 1024 := by omega
      subst this
      have hPs : CPs s 3 (A.2.1 1) := (hC.2.1 1 (by omega)).congr (hf _ (by omega) (by omega) (by omega)) (hf _ (by omega) (by omega) (by omega))
      refine h9 _ _ ⟨fun _ => s_allRules hPs hl ?_, fun c => absurd e1024 c⟩
      have lp : ∀ d x best few, x + d = 2 ^ (A.2.1 1).2.length → ((best = (-4 : Int32) ∧ few = (9 : Int32) ∧ ∀ R, R < x → ¬ noG (A.2.1 1) (A.2.1 0) (kp (2 ^ (A.2.1 1).2.length - 1) R)) ∨ ∃ b, b < x ∧ best = nI b ∧ few = nI (popc b) ∧ noG (A.2.1 1) (A.2.1 0) (kp (2 ^ (A.2.1 1).2.length - 1) b) ∧ ∀ R, R < x → noG (A.2.1 1) (A.2.1 0) (kp (2 ^ (A.2.1 1).2.length - 1) R) → popc b < popc R ∨ (popc b = popc R ∧ b ≤ R)) → P65 (nI (2 ^ (A.2.1 1).2.length - 1)) best few (nI x) s := by
        intro d
        induction d with
        | zero =>
          intro x best few hx hB
          refine h65 _ _ _ _ _ ⟨fun _ => ?_, fun c => absurd (nI_lt (by omega) (by omega)) c⟩
          rcases hB with ⟨-, -, hn⟩ | ⟨b, b1, b2, -, b4, b5⟩
          · exact absurd (noG_all _ _ _) (hn (2 ^ (A.2.1 1).2.length - 1) (by omega))
          · rw [b2]
            exact h b s ⟨by omega, b4, fun R hR => b5 R (by omega)⟩ hf
        | succ d ih =>
          intro x best few hx hB
          have hpl := popc_le x
          have nx : (∀ b, few = nI (popc b) → best = nI b → popc b ≤ popc x) → (few = 9 → ¬ noG (A.2.1 1) (A.2.1 0) (kp (2 ^ (A.2.1 1).2.length - 1) x)) → ∀ y, y = nI x + 1 → P65 (nI (2 ^ (A.2.1 1).2.length - 1)) best few y s := by
            intro hkeep hno y hy
            rw [hy, a1]
            refine ih (x + 1) best few (by omega) ?_
            rcases hB with ⟨e1, e2, hn⟩ | ⟨b, b1, b2, b3, b4, b5⟩
            · refine Or.inl ⟨e1, e2, fun R hR => ?_⟩
              by_cases e : R = x
              · subst e; exact hno e2
              · exact hn R (by omega)
            · refine Or.inr ⟨b, by omega, b2, b3, b4, fun R hR hk => ?_⟩
              by_cases e : R = x
              · subst e
                have := hkeep b b3 b2
                omega
              · exact b5 R (by omega) hk
          refine h65 _ _ _ _ _ ⟨fun c => absurd c (nI_nlt (by omega) (by omega)), fun _ => s_bitCount (by omega) ⟨fun c => ?_, fun c => ?_⟩⟩
          · refine nx (fun b e1 _ => ?_) (fun e => ?_)
            · have := popc_le b
              rw [e1] at c
              exact (nI_leI (by omega) (by omega)).mp c
            · rw [e] at c
              exact absurd ((nI_leI (a := 9) (by omega) (by omega)).mp c) (by omega)
          · rw [andnot2]
            have hF : ∀ v, FQ (fun q => !decide (dN (A.2.1 0) q = 0)) (A.2.1 1).2 1024 v = true ↔ ∃ q, q < 1024 ∧ (!decide (dN (A.2.1 0) q = 0)) = true ∧ v = apN (A.2.1 1).2 q := fun v => FQ_iff
            refine C_any hPs hP hR (fun hex => ?_) (fun hall => ?_)
            · obtain ⟨v, v1, v2, v3⟩ := hex
              obtain ⟨q, q1, q2, q3⟩ := (hF v).mp v2
              have hng : ¬ noG (A.2.1 1) (A.2.1 0) (kp (2 ^ (A.2.1 1).2.length - 1) x) := fun z => z q q1 (by simpa using q2) (by rw [← q3]; exact v3)
              refine g1 (fun y hy => ?_)
              rw [hy, a1]
              refine ih (x + 1) best few (by omega) ?_
              rcases hB with ⟨e1, e2, hn⟩ | ⟨b, b1, b2, b3, b4, b5⟩
              · refine Or.inl ⟨e1, e2, fun R hR => ?_⟩
                by_cases e : R = x
                · subst e; exact hng
                · exact hn R (by omega)
              · refine Or.inr ⟨b, by omega, b2, b3, b4, fun R hR hk => ?_⟩
                by_cases e : R = x
                · subst e; exact absurd hk hng
                · exact b5 R (by omega) hk
            · have hng : noG (A.2.1 1) (A.2.1 0) (kp (2 ^ (A.2.1 1).2.length - 1) x) := fun q hq hd => hall (apN (A.2.1 1).2 q) (lt256 (apN_lt _ _) hl) ((hF _).mpr ⟨q, hq, by simpa using hd, rfl⟩)
              refine g0 (s_bitCount (by omega) (fun y hy => ?_))
              rw [hy, a1]
              refine ih (x + 1) _ _ (by omega) (Or.inr ⟨x, by omega, rfl, rfl, hng, fun R hR hk => ?_⟩)
              by_cases e : R = x
              · subst e; exact Or.inr ⟨rfl, Nat.le_refl _⟩
              · rcases hB with ⟨e1, e2, hn⟩ | ⟨b, b1, b2, b3, b4, b5⟩
                · exact absurd hk (hn R (by omega))
                · have hb := popc_le b
                  have hlt : ¬ popc b ≤ popc x := fun z => c (by rw [b3]; exact nI_le z (by omega))
                  have := b5 R (by omega) hk
                  omega
      exact lp (2 ^ (A.2.1 1).2.length) 0 (-4) 9 (by omega) (Or.inl ⟨rfl, rfl, fun R hR => absurd hR (by omega)⟩)
    | succ d ih =>
      intro q s hq hf hR
      have hPs : CPs s 3 (A.2.1 1) := (hC.2.1 1 (by omega)).congr (hf _ (by omega) (by omega) (by omega)) (hf _ (by omega) (by omega) (by omega))
      have hPo' : CPs s 1 (A.2.1 0) := (hC.2.1 0 (by omega)).congr (hf _ (by omega) (by omega) (by omega)) (hf _ (by omega) (by omega) (by omega))
      have hd := dN_le (A.2.1 0) q
      refine h9 _ _ ⟨fun c => absurd c (n1024 (by omega)), fun _ => s_decOn hPo' hPo (by omega) ⟨fun c y hy => ?_, fun c => s_applying hPs hl (by omega) (C_rsAdd (lt256 (apN_lt _ _) hl) hR (fun s1 f1 r1 y hy => ?_))⟩⟩
      · have c : dN (A.2.1 0) q = 0 := (nI0 (by omega)).mp c
        rw [hy, a1]
        refine ih (q + 1) s (by omega) hf ?_
        have : FQ (fun q => !decide (dN (A.2.1 0) q = 0)) (A.2.1 1).2 (q + 1) = FQ (fun q => !decide (dN (A.2.1 0) q = 0)) (A.2.1 1).2 q := by
          funext w; show (_ || ((!decide (dN (A.2.1 0) q = 0)) && _)) = _; rw [c]; simp
        rw [this]; exact hR
      · have c : ¬ dN (A.2.1 0) q = 0 := fun z => c (by rw [show decN (A.2.1 0).1 (denN (A.2.1 0).2) (apN (A.2.1 0).2 q) = 0 from z]; rfl)
        rw [hy, a1]
        refine ih (q + 1) s1 (by omega) (fun c a b e => by rw [f1 c a b e, hf c a b e]) ?_
        have : FQ (fun q => !decide (dN (A.2.1 0) q = 0)) (A.2.1 1).2 (q + 1) = fun w => FQ (fun q => !decide (dN (A.2.1 0) q = 0)) (A.2.1 1).2 q w || decide (w = apN (A.2.1 1).2 q) := by
          funext w; show (_ || ((!decide (dN (A.2.1 0) q = 0)) && _)) = _; rw [decide_eq_false c]; simp
        rw [this]; exact r1
  exact key 1024 0 s0 (by omega) (fun c a b e => f0 c a e) r0
theorem M_noG {K : Nat} {P Po : Pl} {st : St} {Q : Int32 → St → Prop} (hP : MPs st 1 P) (ho : okP P) (hA : ∀ q, q < 1024 → st 22 q = nI (apN P.2 q)) (hO : ∀ q, q < 1024 → st 23 q = bI (decide (dN Po q = 0))) (h1 : noG P Po K → Q 1 st) (h0 : ¬ noG P Po K → Q 0 st) : wp_X5_isWithoutGain (nI K) st Q := by
  have hl := ho.2.1
  intro P17 h17
  refine s_permits (p := 1) (by omega) hP ho ⟨lit_in (n := 43) _ rfl (by omega) (by omega), fun x3 hx3 => ?_⟩
  rw [show (43 : Int32).toNatClampNeg = 43 by decide, show st 19 43 = nI P.1 from hP.2.1] at hx3
  subst hx3
  have key : ∀ d q, q + d = 1024 → (∀ j, j < q → ¬ dN Po j = 0 → ¬ decN P.1 (denN P.2) (apN P.2 j &&& K) = 0) → P17 (nI (pmN P.2)) (nI P.1) (nI q) st := by
    intro d
    induction d with
    | zero =>
      intro q hq hn
      have : q = 1024 := by omega
      subst this
      exact h17 _ _ _ _ ⟨fun _ => h1 hn, fun c => absurd e1024 c⟩
    | succ d ih =>
      intro q hq hn
      refine h17 _ _ _ _ ⟨fun c => absurd c (n1024 (by omega)), fun _ => ⟨vp_in_nI (by omega) (by omega), ?_⟩⟩
      rw [nI_clamp (by omega), hO q (by omega), hA q (by omega), nx_and]
      have hd := decN_le P.1 (denN P.2) (apN P.2 q &&& K)
      refine ⟨fun c => ⟨vp_in_nI (by omega) (by omega), s_decided ho.1 hl (and_lt2 (apN_lt _ _)) ⟨fun c2 => h0 (fun z => ?_), fun c2 y hy => ?_⟩⟩, fun c y hy => ?_⟩
      · exact z q (by omega) (of_decide_eq_false (bI_0 c)) ((nI0 (by omega)).mp c2)
      · rw [hy, a1]
        refine ih (q + 1) (by omega) (fun j hj hd => ?_)
        by_cases e : j = q
        · subst e; exact fun z => c2 (by rw [z]; rfl)
        · exact hn j (by omega) hd
      · rw [hy, a1]
        refine ih (q + 1) (by omega) (fun j hj hdj => ?_)
        by_cases e : j = q
        · subst e; exact absurd (of_decide_eq_true (bI_1 c)) hdj
        · exact hn j (by omega) hdj
  exact key 1024 0 (by omega) (fun j hj => absurd hj (by omega))
theorem popc_full : ∀ n, n ≤ 8 → popc (2 ^ n - 1) = n := by decide
theorem M_least {A : AS} {st : St} {Q : Int32 → St → Prop} (hM : MS st A) (ho : okA A) (h : ∀ b s1, Best (A.2.1 1) (A.2.1 0) (2 ^ (A.2.1 1).2.length - 1) b → (∀ c, c ≠ 22 → c ≠ 23 → s1 c = st c) → Q (nI b) s1) : wp_X5_leastRemoval st Q := by
  have hP := ho.2.2.1 1 (by omega)
  have hPo := ho.2.2.1 0 (by omega)
  have hl := hP.2.1
  have hpw := pw8 hl
  intro P7 P54 P67 h7 h54 h67
  refine M_looks (p := 1) (by omega) (hM.2.1 1 (by omega)) hP (fun s0 f0 a0 => ?_)
  have key : ∀ d q s, q + d = 1024 → (∀ c, c ≠ 22 → c ≠ 23 → s c = st c) → s 22 = s0 22 → (∀ j, j < q → s 23 j = bI (decide (dN (A.2.1 0) j = 0))) → P7 (nI q) s := by
    intro d
    induction d with
    | zero =>
      intro q s hq hf h22 h23
      have : q = 1024 := by omega
      subst this
      have hPs : MPs s 1 (A.2.1 1) := by unfold MPs; rw [hf 19 (by decide) (by decide)]; exact hM.2.1 1 (by omega)
      have hA : ∀ q, q < 1024 → s 22 q = nI (apN (A.2.1 1).2 q) := fun q hq => by rw [h22]; exact a0 q hq
      have e42 : s 19 42 = nI (A.2.1 1).2.length := hPs.1
      have e0 : ∀ n, n ≤ 8 → ((1 : Int32) <<< (nI n &&& (31 : Int32))) - (1 : Int32) = nI (2 ^ n - 1) := by decide +kernel
      refine h7 _ _ ⟨fun _ => ⟨lit_in (n := 42) _ rfl (by omega) (by omega), fun x hx => ?_⟩, fun c => absurd e1024 c⟩
      rw [show (42 : Int32).toNatClampNeg = 42 by decide, e42, e0 _ hl] at hx
      subst hx
      have lp : ∀ d n, n + d = (A.2.1 1).2.length + 1 → (∀ R, R ≤ 2 ^ (A.2.1 1).2.length - 1 → noG (A.2.1 1) (A.2.1 0) (kp (2 ^ (A.2.1 1).2.length - 1) R) → n ≤ popc R) → P54 (nI (2 ^ (A.2.1 1).2.length - 1)) (nI n) s := by
        intro d
        induction d with
        | zero =>
          intro n hn hB
          have := hB _ (Nat.le_refl _) (noG_all _ _ _)
          rw [popc_full _ hl] at this
          omega
        | succ d ih =>
          intro n hn hB
          refine h54 _ _ _ ?_
          rw [show (42 : Int32).toNatClampNeg = 42 by decide, e42]
          refine ⟨lit_in (n := 42) _ rfl (by omega) (by omega), fun c => absurd c (nI_nlt (by omega) (by omega)), fun _ => ?_⟩
          have inn : ∀ e x, x + e = 2 ^ (A.2.1 1).2.length → (∀ R, R < x → noG (A.2.1 1) (A.2.1 0) (kp (2 ^ (A.2.1 1).2.length - 1) R) → ¬ popc R = n) → P67 (nI (2 ^ (A.2.1 1).2.length - 1)) (nI n) (nI x) s := by
            intro e
            induction e with
            | zero =>
              intro x hx hN
              refine h67 _ _ _ _ ⟨fun _ y hy => ?_, fun c => absurd (nI_lt (by omega) (by omega)) c⟩
              rw [hy, a1]
              refine ih (n + 1) (by omega) (fun R hR hk => ?_)
              have h1 := hB R hR hk
              have h2 := hN R (by omega) hk
              omega
            | succ e ih2 =>
              intro x hx hN
              have hpl := popc_le x
              have nx : ¬ (popc x = n ∧ noG (A.2.1 1) (A.2.1 0) (kp (2 ^ (A.2.1 1).2.length - 1) x)) → ∀ y, y = nI x + 1 → P67 (nI (2 ^ (A.2.1 1).2.length - 1)) (nI n) y s := by
                intro hno y hy
                rw [hy, a1]
                refine ih2 (x + 1) (by omega) (fun R hR hk => ?_)
                by_cases e1 : R = x
                · subst e1; exact fun z => hno ⟨z, hk⟩
                · exact hN R (by omega) hk
              refine h67 _ _ _ _ ⟨fun c => absurd c (nI_nlt (by omega) (by omega)), fun _ => s_bits ⟨fun c => ?_, fun c => nx (fun z => c (by rw [z.1]))⟩⟩
              have c := (nI_eq (by omega) (by omega)).mp c
              rw [andnot2]
              refine M_noG hPs hP hA h23 (fun hk => g1 ?_) (fun hk => g0 (nx (fun z => hk z.2)))
              refine h x s ⟨by omega, hk, fun R hR hk2 => ?_⟩ hf
              have h1 := hB R hR hk2
              rcases Nat.lt_or_ge R x with q | q
              · have := hN R q hk2; omega
              · omega
          exact inn (2 ^ (A.2.1 1).2.length) 0 (by omega) (fun R hR => absurd hR (by omega))
      exact lp ((A.2.1 1).2.length + 1) 0 (by omega) (fun R _ _ => Nat.zero_le _)
    | succ d ih =>
      intro q s hq hf h22 h23
      have hPo' : MPs s 0 (A.2.1 0) := by unfold MPs; rw [hf 19 (by decide) (by decide)]; exact hM.2.1 0 (by omega)
      have hd := dN_le (A.2.1 0) q
      have nx : ∀ v, v = bI (decide (dN (A.2.1 0) q = 0)) → ∀ y, y = nI q + 1 → P7 y (up2 s 23 q v) := by
        intro v hv y hy
        rw [hy, a1]
        refine ih (q + 1) _ (by omega) (fun c a b => by unfold up2; rw [upR_ne _ _ b, hf c a b]) (by unfold up2; rw [upR_ne _ _ (by decide)]; exact h22) (fun j hj => ?_)
        rw [up2_at, if_pos rfl]
        by_cases e : j = q
        · rw [if_pos e, hv, e]
        · rw [if_neg e]; exact h23 j (by omega)
      refine h7 _ _ ⟨fun c => absurd c (n1024 (by omega)), fun _ => s_decision (p := 0) (by omega) hPo' hPo (by omega) ⟨fun c => ?_, fun c => ?_⟩⟩
      · have c : dN (A.2.1 0) q = 0 := (nI0 (by omega)).mp c
        rw [nI_clamp (by omega)]
        exact ⟨vp_in_nI (by omega) (by omega), nx 1 (by rw [decide_eq_true c]; rfl)⟩
      · have c : ¬ dN (A.2.1 0) q = 0 := fun z => c (by rw [show decN (A.2.1 0).1 (denN (A.2.1 0).2) (apN (A.2.1 0).2 q) = 0 from z]; rfl)
        rw [nI_clamp (by omega)]
        exact ⟨vp_in_nI (by omega) (by omega), nx 0 (by rw [decide_eq_false c]; rfl)⟩
  exact key 1024 0 s0 (by omega) (fun c a b => f0 c a) rfl (fun j hj => absurd hj (by omega))
theorem st_leastRemoval {st : St} (hI : Inv st) : wp_X4_leastRemoval st (fun r1 s1 => wp_X5_leastRemoval s1 (fun r2 s2 => r1 = r2 ∧ Inv s2)) := by
  obtain ⟨A, ho, hC, hM⟩ := id hI
  refine C_least hC ho (fun b s1 hb f1 => ?_)
  have hI1 : Inv s1 := hI.keep (fun c hc => f1 c (by omega) (by omega) (by omega)) (fun c h1 h2 => f1 c (by omega) (by omega) (by omega))
  have hM1 : MS s1 A := hM.congr (by rw [f1 17 (by decide) (by decide) (by decide)]) (by rw [f1 17 (by decide) (by decide) (by decide)]) (f1 18 (by decide) (by decide) (by decide)) (f1 19 (by decide) (by decide) (by decide)) (f1 21 (by decide) (by decide) (by decide))
  exact M_least hM1 ho (fun b' s2 hb' f2 => ⟨by rw [hb.one hb'], hI1.keep (fun c hc => f2 c (by omega) (by omega)) (fun c h1 h2 => f2 c (by omega) (by omega))⟩)
