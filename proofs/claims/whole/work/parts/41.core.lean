/-- the sets that are held: those v for which F v -/
def RI (st : St) (F : Nat → Bool) : Prop := st 14 2 = nI (cnt F 256) ∧ (∀ v, v < 256 → st 16 v = bI (F v)) ∧ (∀ i, i < cnt F 256 → ∃ v, v < 256 ∧ F v = true ∧ st 15 i = nI v) ∧ ∀ v, v < 256 → F v = true → ∃ i, i < cnt F 256 ∧ st 15 i = nI v
theorem cnt_none {F : Nat → Bool} {n : Nat} (h : ∀ v, v < n → F v = false) : cnt F n = 0 := by
  induction n with
  | zero => rfl
  | succ n ih => show cnt F n + (F n).toNat = 0; rw [ih (fun v hv => h v (by omega)), h n (by omega)]; rfl
theorem cnt_congr {F F' : Nat → Bool} {n : Nat} (h : ∀ v, v < n → F v = F' v) : cnt F n = cnt F' n := by
  induction n with
  | zero => rfl
  | succ n ih => show cnt F n + (F n).toNat = cnt F' n + (F' n).toNat; rw [ih (fun v hv => h v (by omega)), h n (by omega)]
theorem cnt_add {F : Nat → Bool} {v n : Nat} (hv : v < n) (h : F v = false) : cnt (fun w => F w || decide (w = v)) n = cnt F n + 1 := by
  induction n with
  | zero => omega
  | succ n ih =>
    show cnt (fun w => F w || decide (w = v)) n + (F n || decide (n = v)).toNat = cnt F n + (F n).toNat + 1
    by_cases e : n = v
    · subst e
      rw [cnt_congr (F' := F) (fun w hw => by rw [decide_eq_false (by omega : ¬ w = n)]; simp), h]
      simp
    · rw [ih (by omega), decide_eq_false e]
      simp; omega
theorem cnt_lt {F : Nat → Bool} {v n : Nat} (hv : v < n) (h : F v = false) : cnt F n < n := by
  have h1 := cnt_add hv h
  have h2 := cnt_le (fun w => F w || decide (w = v)) n
  omega
theorem C_rsEmpty {st : St} {Q : St → Prop} (h : ∀ s1, (∀ c, c ≠ 14 → c ≠ 16 → s1 c = st c) → RI s1 (fun _ => false) → Q s1) : wp_X3_empty st Q := by
  intro P2 h2
  have key : ∀ d i, i + d = 256 → P2 (nI i) (upR st 16 (drF (fun _ => 0) (st 16) i)) := by
    intro d
    induction d with
    | zero =>
      intro i hi
      have : i = 256 := by omega
      subst this
      refine h2 _ _ ⟨fun _ => h _ ?_ ?_, fun c => absurd (by decide) c⟩
      · intro c h1 h2; unfold up2; rw [upR_ne _ _ h1, upR_ne _ _ h2]
      · have hc : cnt (fun _ => false) 256 = 0 := cnt_none (fun _ _ => rfl)
        refine ⟨?_, ?_, ?_, ?_⟩
        · rw [up2_at, if_pos rfl, if_pos rfl, hc]; rfl
        · intro v hv
          unfold up2
          rw [upR_ne _ _ (by decide), upR_self]; unfold drF; rw [if_pos hv]; rfl
        · intro i hi; rw [hc] at hi; omega
        · intro v _ hf; exact absurd (show false = true from hf) (by decide)
    | succ d ih =>
      intro i hi
      refine h2 _ _ ⟨fun c => absurd c (nI_ge (a := i) (b := 256) (by omega) (by omega)), fun _ => ⟨vp_in_nI (by omega) (by omega), fun x hx => ?_⟩⟩
      rw [nI_clamp (by omega), up2_upR, hx, a1]
      have e1 := drF_s (fun _ => 0) (st 16) i
      rw [show vp_nar .boolean (0 : Int32) = 0 from rfl, e1]
      exact ih (i + 1) (by omega)
  have h0 := key 256 0 (by omega)
  rw [drF_0, upR_id] at h0
  exact h0
theorem C_rsAdd {v : Nat} {F : Nat → Bool} {st : St} {Q : St → Prop} (hv : v < 256) (hR : RI st F) (h : ∀ s1, (∀ c, c ≠ 14 → c ≠ 15 → c ≠ 16 → s1 c = st c) → RI s1 (fun w => F w || decide (w = v)) → Q s1) : wp_X3_add (nI v) st Q := by
  obtain ⟨r1, r2, r3, r4⟩ := id hR
  have hle := cnt_le F 256
  refine ⟨fun c => absurd c (nI_pos (by omega)), fun _ => ⟨fun c => absurd c (nI_ge (a := v) (b := 256) hv (by omega)), fun _ => ⟨vp_in_nI hv (by omega), ?_⟩⟩⟩
  rw [nI_clamp (by omega), r2 v hv, r1]
  refine ⟨fun c => ?_, fun c => ?_⟩
  · have hf := bI_0 c
    have hlt := cnt_lt hv hf
    refine ⟨fun _ => ⟨vp_in_nI hv (by omega), ?_⟩, fun c2 => absurd (nI_lt (b := 256) hlt (by omega)) c2⟩
    have e14 : ∀ x, up2 st 16 v x 14 2 = nI (cnt F 256) := fun x => by rw [up2_at, if_neg (by decide)]; exact r1
    rw [e14, nI_clamp (by omega)]
    refine ⟨vp_in_nI hlt (by omega), h _ ?_ ?_⟩
    · intro c h1 h2 h3; unfold up2; rw [upR_ne _ _ h1, upR_ne _ _ h2, upR_ne _ _ h3]
    · rw [show vp_nar .boolean (1 : Int32) = 1 from rfl]
      have hc := cnt_add hv hf
      have q14 : ∀ z, up2 (up2 (up2 st 16 v 1) 15 (cnt F 256) (nI v)) 14 2 z 14 2 = z := fun z => by rw [up2_at, if_pos rfl, if_pos rfl]
      have q15 : ∀ z j, up2 (up2 (up2 st 16 v 1) 15 (cnt F 256) (nI v)) 14 2 z 15 j = if j = cnt F 256 then nI v else st 15 j := fun z j => by
        have e15 : up2 st 16 v 1 15 j = st 15 j := by rw [up2_at]; exact if_neg (by decide)
        rw [up2_at, if_neg (by decide), up2_at, if_pos rfl, e15]
      have q16 : ∀ z j, up2 (up2 (up2 st 16 v 1) 15 (cnt F 256) (nI v)) 14 2 z 16 j = if j = v then 1 else st 16 j := fun z j => by
        rw [up2_at, if_neg (by decide), up2_at, if_neg (by decide), up2_at, if_pos rfl]
      have e0 : up2 (up2 st 16 v 1) 15 (cnt F 256) (nI v) 14 2 = nI (cnt F 256) := by rw [up2_at, if_neg (by decide), e14]
      refine ⟨?_, ?_, ?_, ?_⟩
      · rw [q14, e0, a1, hc]
      · intro w hw
        rw [q16]
        show (if w = v then (1 : Int32) else st 16 w) = bI (F w || decide (w = v))
        by_cases e : w = v
        · rw [if_pos e, decide_eq_true e]; simp [bI]
        · rw [if_neg e, decide_eq_false e, r2 w hw]; simp
      · intro i hi
        rw [hc] at hi
        rw [q15]
        by_cases e : i = cnt F 256
        · exact ⟨v, hv, by simp, by rw [if_pos e]⟩
        · obtain ⟨w, w1, w2, w3⟩ := r3 i (by omega)
          exact ⟨w, w1, by show (F w || decide (w = v)) = true; rw [w2]; rfl, by rw [if_neg e]; exact w3⟩
      · intro w hw hF
        rw [hc]
        by_cases e : w = v
        · exact ⟨cnt F 256, by omega, by rw [q15, if_pos rfl, e]⟩
        · have hF : (F w || decide (w = v)) = true := hF
          rw [decide_eq_false e] at hF
          obtain ⟨i, i1, i2⟩ := r4 w hw (by simpa using hF)
          exact ⟨i, by omega, by rw [q15, if_neg (by omega)]; exact i2⟩
  · have hf := bI_1 c
    refine h _ (fun _ _ _ _ => rfl) ?_
    have : (fun w => F w || decide (w = v)) = F := by
      funext w
      by_cases e : w = v
      · subst e; rw [hf]; rfl
      · rw [decide_eq_false e]; simp
    rw [this]; exact hR
/-- the sets of the requests below n for which g -/
def FQ (g : Nat → Bool) (L : List Rl) : Nat → Nat → Bool
  | 0, _ => false
  | n + 1, v => FQ g L n v || (g n && decide (v = apN L n))
theorem FQ_iff {g : Nat → Bool} {L : List Rl} {n v : Nat} : FQ g L n v = true ↔ ∃ q, q < n ∧ g q = true ∧ v = apN L q := by
  induction n with
  | zero => exact ⟨fun h => absurd (show false = true from h) (by decide), fun ⟨q, h, _⟩ => absurd h (by omega)⟩
  | succ n ih =>
    show (FQ g L n v || (g n && decide (v = apN L n))) = true ↔ _
    rw [Bool.or_eq_true, ih, Bool.and_eq_true, decide_eq_true_eq]
    constructor
    · rintro (⟨q, h1, h2⟩ | ⟨h1, h2⟩)
      · exact ⟨q, by omega, h2⟩
      · exact ⟨n, by omega, h1, h2⟩
    · rintro ⟨q, h1, h2, h3⟩
      by_cases e : q = n
      · subst e; exact Or.inr ⟨h2, h3⟩
      · exact Or.inl ⟨q, by omega, h2, h3⟩
theorem C_same {k K K' : Nat} {F : Nat → Bool} {P : Pl} {st : St} {Q : Int32 → St → Prop} (hP : CPs st k P) (ho : okP P) (hR : RI st F) (h1 : (∀ v, v < 256 → F v = true → decN P.1 (denN P.2) (v &&& K) = decN P.1 (denN P.2) (v &&& K')) → Q 1 st) (h0 : (∃ v, v < 256 ∧ F v = true ∧ ¬ decN P.1 (denN P.2) (v &&& K) = decN P.1 (denN P.2) (v &&& K')) → Q 0 st) : wp_X3_sameDecisions k (nI K) (nI K') st Q := by
  obtain ⟨r1, r2, r3, r4⟩ := hR
  have hle := cnt_le F 256
  intro P3 h3
  have key : ∀ d i, i + d = cnt F 256 → (∀ j v, j < i → v < 256 → st 15 j = nI v → decN P.1 (denN P.2) (v &&& K) = decN P.1 (denN P.2) (v &&& K')) → P3 (nI i) st := by
    intro d
    induction d with
    | zero =>
      intro i hi hq
      refine h3 _ _ ?_
      rw [r1]
      refine ⟨fun _ => h1 (fun v hv hf => ?_), fun c => absurd (nI_le (by omega) (by omega)) c⟩
      obtain ⟨j, j1, j2⟩ := r4 v hv hf
      exact hq j v (by omega) hv j2
    | succ d ih =>
      intro i hi hq
      refine h3 _ _ ?_
      rw [r1]
      obtain ⟨v, v1, v2, v3⟩ := r3 i (by omega)
      rw [nI_clamp (by omega), v3, nx_and]
      have d1 := decN_le P.1 (denN P.2) (v &&& K)
      have d2 := decN_le P.1 (denN P.2) (v &&& K')
      refine ⟨fun c => absurd c (nI_ge (by omega) (by omega)), fun _ => ⟨vp_in_nI (by omega) (by omega), s_decAmong hP ho (and_lt v1) ⟨vp_in_nI (by omega) (by omega), ?_⟩⟩⟩
      rw [v3, nx_and]
      refine s_decAmong hP ho (and_lt v1) ⟨fun c y hy => ?_, fun c => h0 ⟨v, v1, v2, fun z => c (by rw [z])⟩⟩
      have c := (nI_eq (by omega) (by omega)).mp c
      rw [hy, a1]
      refine ih (i + 1) (by omega) (fun j w hj hw e => ?_)
      by_cases ej : j = i
      · subst ej
        rw [v3] at e
        have := (nI_eq (by omega) (by omega)).mp e
        subst this
        exact c
      · exact hq j w (by omega) hw e
  exact key (cnt F 256) 0 (by omega) (fun j v hj => absurd hj (by omega))
def redB (P : Pl) (K r : Nat) : Bool := decide (nxN (df P K r) 1024 0 = -4)
theorem redB_t {P : Pl} {K r : Nat} (h : ∀ q, q < 1024 → df P K r q = false) : redB P K r = true := decide_eq_true ((nxN_m4 1024 0 (by omega)).mpr (fun j _ hj => h j (by omega)))
theorem redB_f {P : Pl} {K r : Nat} (h : ¬ ∀ q, q < 1024 → df P K r q = false) : redB P K r = false := decide_eq_false (fun z => h (fun q hq => (nxN_m4 1024 0 (by omega)).mp z q (by omega) (by omega)))
def lw (f : Nat → Bool) : Nat → Nat → Nat
  | 0, _ => 8
  | d + 1, r => if f r then r else lw f d (r + 1)
theorem lw_none {f : Nat → Bool} : ∀ d r, (∀ j, r ≤ j → j < r + d → f j = false) → lw f d r = 8 := by
  intro d
  induction d with
  | zero => intro r _; rfl
  | succ d ih =>
    intro r h
    unfold lw
    rw [h r (Nat.le_refl _) (by omega), if_neg (by decide)]
    exact ih (r + 1) (fun j h1 h2 => h j (by omega) (by omega))
theorem lw_some {f : Nat → Bool} {j : Nat} : ∀ d r, r ≤ j → j < r + d → f j = true → (∀ i, r ≤ i → i < j → f i = false) → lw f d r = j := by
  intro d
  induction d with
  | zero => intro r h1 h2; omega
  | succ d ih =>
    intro r h1 h2 hf hn
    unfold lw
    by_cases e : r = j
    · subst e; rw [hf, if_pos rfl]
    · rw [hn r (Nat.le_refl _) (by omega), if_neg (by decide)]
      exact ih (r + 1) (by omega) (by omega) hf (fun i a b => hn i (by omega) b)
def lowR (P : Pl) (K : Nat) : Nat := lw (fun r => K.testBit r && redB P K r) 8 0
def lowI (P : Pl) (K : Nat) : Int32 := if lowR P K = 8 then 0 else nI (2 ^ lowR P K)
theorem pow_lt256 : ∀ r, r < 8 → 2 ^ r < 256 ∧ 2 ^ r ≠ 0 := by decide
theorem C_lowest {k K : Nat} {P : Pl} {st : St} {Q : Int32 → St → Prop} (hP : CPs st k P) (ho : okP P) (hR : RI st (FQ (fun _ => true) P.2 1024)) (h : Q (lowI P K) st) : wp_X4_lowestRedundant k (nI K) st Q := by
  have hl := ho.2.1
  intro P2 h2
  have key : ∀ d r, r + d = 8 → (∀ j, j < r → (K.testBit j && redB P K j) = false) → P2 (nI r) st := by
    intro d
    induction d with
    | zero =>
      intro r hr hn
      have : r = 8 := by omega
      subst this
      refine h2 _ _ ⟨fun _ => ?_, fun c => absurd (by decide) c⟩
      have e : lowR P K = 8 := lw_none 8 0 (fun j _ hj => hn j (by omega))
      unfold lowI at h
      rw [if_pos e] at h
      exact h
    | succ d ih =>
      intro r hr hn
      refine h2 _ _ ⟨fun c => absurd c (nI_ge (a := r) (b := 8) (by omega) (by omega)), fun _ x4 hx4 => ?_⟩
      rw [one_shl r (by omega)] at hx4
      subst hx4
      have hpw := pow_lt256 r (by omega)
      have nx : (K.testBit r && redB P K r) = false → ∀ y, y = nI r + 1 → P2 y st := by
        intro hf y hy
        rw [hy, a1]
        refine ih (r + 1) (by omega) (fun j hj => ?_)
        by_cases e : j = r
        · subst e; exact hf
        · exact hn j (by omega)
      rw [nx_and, andnot2]
      have hk : K &&& 2 ^ r < 2 ^ 31 := Nat.lt_of_le_of_lt Nat.and_le_right (by omega)
      refine ⟨fun c => ?_, fun c => ?_⟩
      · have c := and_pow.mp ((nI0 hk).mp c)
        exact nx (by rw [c]; rfl)
      · have hb : K.testBit r = true := by
          cases hq : K.testBit r with
          | true => rfl
          | false => exact absurd ((nI0 hk).mpr (and_pow.mpr hq)) c
        refine C_same hP ho hR (fun hall => g1 ?_) (fun hex => g0 (nx ?_))
        · have hred : redB P K r = true := redB_t (fun q hq => by
            unfold df
            refine decide_eq_false (fun z => z ?_)
            have := hall (apN P.2 q) (lt256 (apN_lt _ _) hl) (FQ_iff.mpr ⟨q, hq, rfl, rfl⟩)
            rw [clr_and]; exact this)
          have e : lowR P K = r := lw_some 8 0 (by omega) (by omega) (by rw [hb, hred]; rfl) (fun i _ hi => hn i hi)
          unfold lowI at h
          rw [e, if_neg (by omega)] at h
          exact h
        · obtain ⟨v, v1, v2, v3⟩ := hex
          obtain ⟨q, q1, -, q3⟩ := FQ_iff.mp v2
          have hred : redB P K r = false := redB_f (fun z => by
            have := z q q1
            unfold df at this
            have := of_decide_eq_false this
            rw [clr_and, ← q3] at this
            exact this v3)
          rw [hred]; simp
  exact key 8 0 (by omega) (fun j hj => absurd hj (by omega))
def coreN (P : Pl) : Nat → Nat → Nat
  | 0, K => K
  | m + 1, K => if lowR P K = 8 then K else coreN P m (clr K (lowR P K))
theorem lowR_le (P : Pl) (K : Nat) : lowR P K ≤ 8 := by
  have key : ∀ (f : Nat → Bool) d r, r + d ≤ 8 → lw f d r ≤ 8 := by
    intro f d
    induction d with
    | zero => intro r _; exact Nat.le_refl 8
    | succ d ih =>
      intro r h
      unfold lw
      cases f r with
      | true => rw [if_pos rfl]; omega
      | false => rw [if_neg (by decide)]; exact ih (r + 1) (by omega)
  exact key _ 8 0 (by omega)
theorem C_core {k : Nat} {P : Pl} {st : St} {Q : Int32 → St → Prop} {p : Nat} (hp : p < 2) (hk : k = 2 * p + 1) (hP : CPs st k P) (ho : okP P) (h : ∀ s1, (∀ c, c ≠ 14 → c ≠ 15 → c ≠ 16 → s1 c = st c) → Q (nI (coreN P 8 (2 ^ P.2.length - 1))) s1) : wp_X4_irredundantCore (nI p) st Q := by
  have hl := ho.2.1
  subst hk
  intro P24 P65 h24 h65
  refine C_isP1 hp (g1 (C_pn hp (C_rsEmpty (fun s0 f0 r0 => ?_))))
  have key : ∀ d q s, q + d = 1024 → (∀ c, c ≠ 14 → c ≠ 15 → c ≠ 16 → s c = st c) → RI s (FQ (fun _ => true) P.2 q) → P24 (2 * p + 1) (nI q) s := by
    intro d
    induction d with
    | zero =>
      intro q s hq hf hR
      have : q = 1024 := by omega
      subst this
      have hPs : CPs s (2 * p + 1) P := hP.congr (hf _ (by omega) (by omega) (by omega)) (hf _ (by omega) (by omega) (by omega))
      refine h24 _ _ _ ⟨fun _ => s_allRules hPs hl (C_lowest hPs ho hR ?_), fun c => absurd e1024 c⟩
      have rnd : ∀ m i K, i + m = 8 → Q (nI (coreN P m K)) s → P65 (2 * p + 1) (nI K) (lowI P K) (nI i) s := by
        intro m
        induction m with
        | zero =>
          intro i K hi hq
          have : i = 8 := by omega
          subst this
          exact h65 _ _ _ _ _ ⟨fun _ => hq, fun c => absurd (by decide) c⟩
        | succ m ih =>
          intro i K hi hq
          unfold coreN at hq
          have hle := lowR_le P K
          refine h65 _ _ _ _ _ ⟨fun c => absurd c (nI_ge (a := i) (b := 8) (by omega) (by omega)), fun _ => ⟨fun c => ?_, fun c x hx => ?_⟩⟩
          · unfold lowI at c
            by_cases e : lowR P K = 8
            · rw [if_pos e] at hq; exact hq
            · rw [if_neg e] at c
              have hpw := pow_lt256 (lowR P K) (by omega)
              exact absurd ((nI0 (by omega)).mp c) hpw.2
          · unfold lowI at c hx
            by_cases e : lowR P K = 8
            · rw [if_pos e] at c; exact absurd rfl c
            · rw [if_neg e] at hx hq
              rw [andnot2] at hx
              subst hx
              refine C_lowest hPs ho hR (fun y hy => ?_)
              rw [hy, a1]
              exact ih (i + 1) _ (by omega) hq
      exact rnd 8 0 _ (by omega) (h s hf)
    | succ d ih =>
      intro q s hq hf hR
      have hPs : CPs s (2 * p + 1) P := hP.congr (hf _ (by omega) (by omega) (by omega)) (hf _ (by omega) (by omega) (by omega))
      refine h24 _ _ _ ⟨fun c => absurd c (n1024 (by omega)), fun _ => s_applying hPs hl (by omega) (C_rsAdd (lt256 (apN_lt _ _) hl) hR (fun s1 f1 r1 y hy => ?_))⟩
      rw [hy, a1]
      refine ih (q + 1) s1 (by omega) (fun c a b e => by rw [f1 c a b e, hf c a b e]) ?_
      have : FQ (fun _ => true) P.2 (q + 1) = fun w => FQ (fun _ => true) P.2 q w || decide (w = apN P.2 q) := by
        funext w; show (_ || (true && _)) = _; simp
      rw [this]; exact r1
  exact key 1024 0 s0 (by omega) (fun c a b e => f0 c a e) r0
theorem popc_clr {K r : Nat} (hr : r < 8) (h : K.testBit r = true) : popc (clr K r) + 1 = popc K := by
  have h1 := popc_add K (2 ^ r)
  have h2 : popc (K &&& 2 ^ r) = 1 := by
    have e : K &&& 2 ^ r = 2 ^ r := by
      apply Nat.eq_of_testBit_eq
      intro i
      rw [Nat.testBit_and, Nat.testBit_two_pow]
      by_cases q : r = i
      · subst q; rw [h]; simp
      · simp [q]
    rw [e]
    exact (by decide : ∀ r, r < 8 → popc (2 ^ r) = 1) r hr
  unfold clr
  omega
theorem M_core {p : Nat} {P : Pl} {st : St} {Q : Int32 → St → Prop} (hp : p < 2) (hP : MPs st p P) (ho : okP P) (h : ∀ s1, (∀ c, c ≠ 22 → s1 c = st c) → Q (nI (coreN P 8 (2 ^ P.2.length - 1))) s1) : wp_X5_irredundantCore (nI p) st Q := by
  have hl := ho.2.1
  intro P30 h30
  refine M_isP1 hp (g1 (M_looks hp hP ho (fun s f1 f2 => ?_)))
  have hPs : MPs s p P := by unfold MPs; rw [f1 19 (by decide)]; exact hP
  rw [m42, nI_clamp (by omega), show s 19 (42 * p) = nI P.2.length from hPs.1]
  refine ⟨vp_in_nI (by omega) (by omega), fun x2 hx2 => ?_⟩
  have e0 : ∀ n, n ≤ 8 → ((1 : Int32) <<< (nI n &&& (31 : Int32))) - (1 : Int32) = nI (2 ^ n - 1) := by decide +kernel
  rw [e0 _ hl] at hx2
  subst hx2
  have key : ∀ m K, popc K ≤ m → K < 2 ^ P.2.length → Q (nI (coreN P m K)) s → ∀ d r, r + d = P.2.length → (∀ j, j < r → (K.testBit j && redB P K j) = false) → P30 (nI K) (nI r) s := by
    intro m
    induction m with
    | zero =>
      intro K hK hKl hq d
      have hK0 : K = 0 := (popc_0 K (lt256 hKl hl)).mp (by omega)
      subst hK0
      induction d with
      | zero =>
        intro r hr _
        refine h30 _ _ _ ?_
        rw [m42, nI_clamp (by omega), show s 19 (42 * p) = nI P.2.length from hPs.1]
        exact ⟨vp_in_nI (by omega) (by omega), fun _ => hq, fun c => absurd (nI_le (by omega) (by omega)) c⟩
      | succ d ih =>
        intro r hr hn
        refine h30 _ _ _ ?_
        rw [m42, nI_clamp (by omega), show s 19 (42 * p) = nI P.2.length from hPs.1]
        refine ⟨vp_in_nI (by omega) (by omega), fun c => absurd c (nI_ge (by omega) (by omega)), fun _ => s_has (by omega) ?_⟩
        rw [b_nI _ (by omega), Nat.zero_testBit]
        refine g0 (fun y hy => ?_)
        rw [hy, a1]
        exact ih (r + 1) (by omega) (fun j _ => by rw [Nat.zero_testBit]; rfl)
    | succ m ihm =>
      intro K hK hKl hq d
      induction d with
      | zero =>
        intro r hr hn
        refine h30 _ _ _ ?_
        rw [m42, nI_clamp (by omega), show s 19 (42 * p) = nI P.2.length from hPs.1]
        refine ⟨vp_in_nI (by omega) (by omega), fun _ => ?_, fun c => absurd (nI_le (by omega) (by omega)) c⟩
        have e : lowR P K = 8 := lw_none 8 0 (fun j _ hj => by
          rcases Nat.lt_or_ge j r with q | q
          · exact hn j q
          · rw [Nat.testBit_lt_two_pow (Nat.lt_of_lt_of_le hKl (Nat.pow_le_pow_right (by omega) (by omega : P.2.length ≤ j)))]; rfl)
        unfold coreN at hq
        rw [if_pos e] at hq
        exact hq
      | succ d ih =>
        intro r hr hn
        refine h30 _ _ _ ?_
        rw [m42, nI_clamp (by omega), show s 19 (42 * p) = nI P.2.length from hPs.1]
        refine ⟨vp_in_nI (by omega) (by omega), fun c => absurd c (nI_ge (by omega) (by omega)), fun _ => s_has (by omega) ?_⟩
        rw [b_nI _ (by omega)]
        have nx : (K.testBit r && redB P K r) = false → ∀ y, y = nI r + 1 → P30 (nI K) y s := by
          intro hf y hy
          rw [hy, a1]
          refine ih (r + 1) (by omega) (fun j hj => ?_)
          by_cases e : j = r
          · subst e; exact hf
          · exact hn j (by omega)
        refine ⟨fun c => nx (by rw [bI_0 c]; rfl), fun c => M_shows hp hPs ho f2 (by omega) ⟨fun c2 x hx => ?_, fun c2 => nx ?_⟩⟩
        · have hb := bI_1 c
          have hall := (nxN_m4 1024 0 (by omega)).mp c2
          have hred : redB P K r = true := redB_t (fun q hq => hall q (by omega) (by omega))
          have e : lowR P K = r := lw_some 8 0 (by omega) (by omega) (by rw [hb, hred]; rfl) (fun i _ hi => hn i hi)
          unfold coreN at hq
          rw [e, if_neg (by omega)] at hq
          rw [hx, clr_I _ (by omega)]
          have hpc := popc_clr (r := r) (by omega) hb
          exact ihm (clr K r) (by omega) (Nat.lt_of_le_of_lt (clr_le _ _) hKl) hq P.2.length 0 (by omega) (fun j hj => absurd hj (by omega))
        · have hred : redB P K r = false := redB_f (fun z => c2 ((nxN_m4 1024 0 (by omega)).mpr (fun j _ hj => z j (by omega))))
          rw [hred]; simp
  have hpos : 0 < 2 ^ P.2.length := Nat.pow_pos (by omega)
  exact key 8 _ (popc_le _) (by omega) (h s f1) P.2.length 0 (by omega) (fun j hj => absurd hj (by omega))
theorem st_irredundantCore {st : St} (hI : Inv st) (x : Int32) : wp_X4_irredundantCore x st (fun r1 s1 => wp_X5_irredundantCore x s1 (fun r2 s2 => r1 = r2 ∧ Inv s2)) := by
  obtain ⟨A, ho, hC, hM⟩ := id hI
  rcases bad_or x (n := 2) (by omega) with hb | ⟨p, hp, rfl⟩
  · exact fun P24 P65 _ _ => C_isP0 hb (g0 (fun P30 _ => M_isP0 hb (g0 ⟨rfl, hI⟩)))
  · have hP := ho.2.2.1 p hp
    refine C_core hp rfl (hC.2.1 p hp) hP (fun s1 f1 => ?_)
    have hI1 : Inv s1 := hI.keep (fun c hc => f1 c (by omega) (by omega) (by omega)) (fun c h1 h2 => f1 c (by omega) (by omega) (by omega))
    have hP' : MPs s1 p (A.2.1 p) := by unfold MPs; rw [f1 19 (by decide) (by decide) (by decide)]; exact hM.2.1 p hp
    exact M_core hp hP' hP (fun s2 f2 => ⟨rfl, hI1.keep (fun c hc => f2 c (by omega)) (fun c h1 h2 => f2 c (by omega))⟩)
