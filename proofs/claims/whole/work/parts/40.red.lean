theorem Inv.keep {st s1 : St} (h : Inv st) (h1 : ∀ c, c < 14 → s1 c = st c) (h2 : ∀ c, 17 ≤ c → c < 22 → s1 c = st c) : Inv s1 := by
  obtain ⟨A, ho, hC, hM⟩ := h
  exact ⟨A, ho, hC.congr (by rw [h1 5 (by omega)]) (h1 6 (by omega)) (fun c hc => h1 c (by omega)) (by rw [h1 11 (by omega)]) (h1 12 (by omega)) (h1 13 (by omega)), hM.congr (by rw [h2 17 (by omega) (by omega)]) (by rw [h2 17 (by omega) (by omega)]) (h2 18 (by omega) (by omega)) (h2 19 (by omega) (by omega)) (h2 21 (by omega) (by omega))⟩
def clr (S r : Nat) : Nat := S ^^^ (S &&& 2 ^ r)
theorem andnot2 (S D : Nat) : nI S &&& (nI D ^^^ (-1 : Int32)) = nI (S ^^^ (S &&& D)) := by
  apply b_ext
  intro i hi
  rw [b_and, b_inv _ hi, b_nI _ hi, b_nI _ hi, b_nI _ hi, Nat.testBit_xor, Nat.testBit_and]
  cases S.testBit i <;> cases D.testBit i <;> rfl
theorem one_shl : ∀ i, i < 31 → (1 : Int32) <<< (nI i &&& 31) = nI (2 ^ i) := by decide +kernel
theorem clr_I (S : Nat) {r : Nat} (hr : r < 31) : nI S &&& (((1 : Int32) <<< (nI r &&& 31)) ^^^ (-1 : Int32)) = nI (clr S r) := by
  rw [one_shl r hr, andnot2]; rfl
theorem clr_bit (S r i : Nat) : (clr S r).testBit i = (S.testBit i && !decide (r = i)) := by
  unfold clr
  rw [Nat.testBit_xor, Nat.testBit_and, Nat.testBit_two_pow]
  cases S.testBit i <;> simp
theorem clr_id {S r : Nat} (h : S.testBit r = false) : clr S r = S := by
  apply Nat.eq_of_testBit_eq
  intro i
  rw [clr_bit]
  by_cases e : r = i
  · subst e; rw [h]; rfl
  · simp [e]
theorem clr_le (S r : Nat) : clr S r ≤ S := by
  rcases Nat.lt_or_ge S (clr S r) with h | h
  · exfalso
    have : clr S r &&& S = clr S r := by
      apply Nat.eq_of_testBit_eq
      intro i
      rw [Nat.testBit_and, clr_bit]
      cases S.testBit i <;> simp
    have h2 : clr S r &&& S ≤ S := Nat.and_le_right
    omega
  · exact h
theorem clr_and (S K r : Nat) : clr (S &&& K) r = S &&& clr K r := by
  apply Nat.eq_of_testBit_eq
  intro i
  rw [clr_bit, Nat.testBit_and, Nat.testBit_and, clr_bit]
  cases S.testBit i <;> simp
/-- a request that the policy of the rules K decides otherwise without r -/
def df (P : Pl) (K r q : Nat) : Bool := decide (¬ decN P.1 (denN P.2) (apN P.2 q &&& K) = decN P.1 (denN P.2) (clr (apN P.2 q &&& K) r))
theorem and_lt2 {S K l : Nat} (h : S < 2 ^ l) : S &&& K < 2 ^ l := Nat.lt_of_le_of_lt Nat.and_le_left h
theorem and255 {S : Nat} (h : S < 256) : S &&& 255 = S := by
  have := Nat.and_two_pow_sub_one_eq_mod S 8
  rw [show (255 : Nat) = 2 ^ 8 - 1 from rfl, this]
  exact Nat.mod_eq_of_lt h
theorem s_allRules {k : Nat} {P : Pl} {st : St} {Q : Int32 → St → Prop} (hP : CPs st k P) (hl : P.2.length ≤ 8) (h : Q (nI (2 ^ P.2.length - 1)) st) : wp_X1_allRules k st Q := by
  unfold wp_X1_allRules
  have key : ∀ n, n ≤ 8 → ((1 : Int32) <<< (nI n &&& (31 : Int32))) - (1 : Int32) = nI (2 ^ n - 1) := by decide +kernel
  rw [hP.1, key _ hl]
  exact h
theorem C_first {k i : Nat} {P : Pl} {st : St} {Q : Int32 → St → Prop} (hP : CPs st k P) (ho : okP P) (hi : i < P.2.length) (h : Q (nxN (df P 255 i) 1024 0) st) : wp_X4_firstChangeWithout k (nI i) st Q := by
  have hl := ho.2.1
  intro P8 h8 x2 hx2
  subst hx2
  have key : ∀ d q, q + d = 1024 → Q (nxN (df P 255 i) d q) st → P8 (((1 : Int32) <<< (nI i &&& (31 : Int32))) ^^^ (-1 : Int32)) (nI q) st := by
    intro d
    induction d with
    | zero =>
      intro q hq h
      have : q = 1024 := by omega
      subst this
      exact h8 _ _ _ ⟨fun _ => h, fun c => absurd e1024 c⟩
    | succ d ih =>
      intro q hq h
      unfold nxN at h
      have hS := lt256 (apN_lt P.2 q) hl
      have hc := clr_le (apN P.2 q) i
      have hd1 := decN_le P.1 (denN P.2) (apN P.2 q)
      have hd2 := decN_le P.1 (denN P.2) (clr (apN P.2 q) i)
      refine h8 _ _ _ ⟨fun c => absurd c (n1024 (by omega)), fun _ => s_applying hP hl (by omega) (s_decAmong hP ho hS ?_)⟩
      rw [clr_I _ (by omega)]
      refine s_decAmong hP ho (by omega) ⟨fun c y hy => ?_, fun c => ?_⟩
      · have c := (nI_eq (by omega) (by omega)).mp c
        have hf : df P 255 i q = false := by unfold df; rw [and255 hS]; exact decide_eq_false (fun z => z c)
        rw [hf] at h
        rw [hy, a1]; exact ih (q + 1) (by omega) h
      · have hf : df P 255 i q = true := by unfold df; rw [and255 hS]; exact decide_eq_true (fun z => c (by rw [z]))
        rw [hf] at h; exact h
  exact key 1024 0 (by omega) h
def lookF (f : Nat → Int32) (L : List Rl) (i : Nat) : Nat → Int32 := fun j => if j < i then nI (apN L j) else f j
theorem M_looks {p : Nat} {P : Pl} {st : St} {Q : St → Prop} (hp : p < 2) (hP : MPs st p P) (ho : okP P) (h : ∀ s1, (∀ c, c ≠ 22 → s1 c = st c) → (∀ q, q < 1024 → s1 22 q = nI (apN P.2 q)) → Q s1) : wp_X5_looks (nI p) st Q := by
  intro P2 h2
  have key : ∀ d q, q + d = 1024 → P2 (nI q) (upR st 22 (lookF (st 22) P.2 q)) := by
    intro d
    induction d with
    | zero =>
      intro q hq
      have : q = 1024 := by omega
      subst this
      refine h2 _ _ ⟨fun _ => h _ (fun c hc => upR_ne _ _ hc) (fun q hq => ?_), fun c => absurd e1024 c⟩
      rw [upR_self]; unfold lookF; rw [if_pos hq]
    | succ d ih =>
      intro q hq
      have hP' : MPs (upR st 22 (lookF (st 22) P.2 q)) p P := by unfold MPs; rw [upR_ne _ _ (by decide)]; exact hP
      refine h2 _ _ ⟨fun c => absurd c (n1024 (by omega)), fun _ => s_rulesFor hp hP' ho (by omega) ⟨vp_in_nI (by omega) (by omega), fun y hy => ?_⟩⟩
      rw [nI_clamp (by omega), up2_upR, hy, a1]
      have e : upd (lookF (st 22) P.2 q) q (nI (apN P.2 q)) = lookF (st 22) P.2 (q + 1) := by
        funext j; unfold upd lookF
        by_cases e1 : j = q
        · subst e1; rw [if_pos rfl, if_pos (by omega)]
        · rw [if_neg e1]
          by_cases e2 : j < q
          · rw [if_pos e2, if_pos (by omega)]
          · rw [if_neg e2, if_neg (by omega)]
      rw [e]
      exact ih (q + 1) (by omega)
  have h0 := key 1024 0 (by omega)
  have e0 : lookF (st 22) P.2 0 = st 22 := by funext j; unfold lookF; rw [if_neg (by omega)]
  rw [e0, upR_id] at h0
  exact h0
theorem M_shows {p K r : Nat} {P : Pl} {st : St} {Q : Int32 → St → Prop} (hp : p < 2) (hP : MPs st p P) (ho : okP P) (hA : ∀ q, q < 1024 → st 22 q = nI (apN P.2 q)) (hr : r < 8) (h : Q (nxN (df P K r) 1024 0) st) : wp_X5_shows (nI p) (nI K) (nI r) st Q := by
  have hl := ho.2.1
  intro P23 h23
  refine s_permits hp hP ho ?_
  rw [m42, a1, nI_clamp (by omega)]
  refine ⟨vp_in_nI (by omega) (by omega), fun x5 hx5 => ?_⟩
  rw [show st 19 (42 * p + 1) = nI P.1 from hP.2.1] at hx5
  subst hx5
  have key : ∀ d q, q + d = 1024 → Q (nxN (df P K r) d q) st → P23 (nI (pmN P.2)) (nI P.1) (nI q) st := by
    intro d
    induction d with
    | zero =>
      intro q hq h
      have : q = 1024 := by omega
      subst this
      exact h23 _ _ _ _ ⟨fun _ => h, fun c => absurd e1024 c⟩
    | succ d ih =>
      intro q hq h
      unfold nxN at h
      have hT := and_lt2 (K := K) (apN_lt P.2 q)
      have hd1 := decN_le P.1 (denN P.2) (apN P.2 q &&& K)
      have hd2 := decN_le P.1 (denN P.2) (clr (apN P.2 q &&& K) r)
      refine h23 _ _ _ _ ⟨fun c => absurd c (n1024 (by omega)), fun _ => ⟨vp_in_nI (by omega) (by omega), fun x7 hx7 => ?_⟩⟩
      rw [nI_clamp (by omega), hA q (by omega), nx_and] at hx7
      subst hx7
      refine s_has (by omega) ?_
      rw [b_nI _ (by omega)]
      refine ⟨fun c y hy => ?_, fun c => s_decided ho.1 hl hT ?_⟩
      · have hf : df P K r q = false := by unfold df; rw [clr_id (bI_0 c)]; exact decide_eq_false (fun z => z rfl)
        rw [hf] at h
        rw [hy, a1]; exact ih (q + 1) (by omega) h
      · rw [clr_I _ (by omega)]
        refine s_decided ho.1 hl (Nat.lt_of_le_of_lt (clr_le _ _) hT) ⟨fun c y hy => ?_, fun c => ?_⟩
        · have c := (nI_eq (by omega) (by omega)).mp c
          have hf : df P K r q = false := by unfold df; exact decide_eq_false (fun z => z c)
          rw [hf] at h
          rw [hy, a1]; exact ih (q + 1) (by omega) h
        · have hf : df P K r q = true := by unfold df; exact decide_eq_true (fun z => c (by rw [z]))
          rw [hf] at h; exact h
  exact key 1024 0 (by omega) h
theorem st_witness {st : St} (hI : Inv st) (x y : Int32) : wp_X4_witness x y st (fun r1 s1 => wp_X5_witness x y s1 (fun r2 s2 => r1 = r2 ∧ Inv s2)) := by
  obtain ⟨A, ho, hC, hM⟩ := id hI
  rcases rule_or ho x y with hb | ⟨p, i, r, hp, rfl, rfl, hr⟩
  · exact C_isR0 hC hb (g0 (M_isR0 hM ho hb (g0 ⟨rfl, hI⟩)))
  · have hP := ho.2.2.1 p hp
    have hi := ltl hr
    have hl := hP.2.1
    refine C_isR1 hC ho hp hi (g1 (C_pn hp (C_first (hC.2.1 p hp) hP hi (M_isR1 hM ho hp hi (g1 (M_looks hp (hM.2.1 p hp) hP (fun s1 f1 f2 => ?_)))))))
    have hP' : MPs s1 p (A.2.1 p) := by unfold MPs; rw [f1 19 (by decide)]; exact hM.2.1 p hp
    exact M_shows (K := 255) hp hP' hP f2 (by omega) ⟨rfl, hI.keep (fun c hc => f1 c (by omega)) (fun c h1 h2 => f1 c (by omega))⟩
theorem nxN_m4 {f : Nat → Bool} : ∀ d q, q + d ≤ 1024 → (nxN f d q = -4 ↔ ∀ j, q ≤ j → j < q + d → f j = false) := by
  intro d
  induction d with
  | zero => intro q _; exact ⟨fun _ j h1 h2 => absurd h2 (by omega), fun _ => rfl⟩
  | succ d ih =>
    intro q hq
    unfold nxN
    cases hf : f q with
    | true =>
      rw [if_pos rfl]
      constructor
      · intro e
        exfalso
        have h1 := nI_pos (n := q) (by omega)
        rw [e] at h1
        exact h1 (by decide)
      · intro h
        have := h q (Nat.le_refl _) (by omega)
        rw [hf] at this
        exact absurd this (by decide)
    | false =>
      rw [if_neg (by decide), ih (q + 1) (by omega)]
      constructor
      · intro h j h1 h2
        by_cases e : j = q
        · subst e; exact hf
        · exact h j (by omega) (by omega)
      · intro h j h1 h2; exact h j (by omega) (by omega)
theorem nxN_m1 {f : Nat → Bool} : ∀ d q, q + d ≤ 1024 → ¬ nxN f d q = -1 := by
  intro d
  induction d with
  | zero => intro q _ e; exact absurd (show (-4 : Int32) = -1 from e) (by decide)
  | succ d ih =>
    intro q hq
    unfold nxN
    cases hf : f q with
    | true =>
      rw [if_pos rfl]
      intro e
      have h1 := nI_pos (n := q) (by omega)
      rw [e] at h1
      exact h1 (by decide)
    | false => rw [if_neg (by decide)]; exact ih (q + 1) (by omega)
theorem st_isRedundant {st : St} (hI : Inv st) (x y : Int32) : wp_X4_isRedundant x y st (fun r1 s1 => wp_X5_isRedundant x y s1 (fun r2 s2 => r1 = r2 ∧ Inv s2)) := by
  obtain ⟨A, ho, hC, hM⟩ := id hI
  rcases rule_or ho x y with hb | ⟨p, i, r, hp, rfl, rfl, hr⟩
  · refine C_isR0 hC hb (g0 ?_)
    unfold wp_X5_isRedundant wp_X5_witness
    exact M_isR0 hM ho hb (g0 ⟨fun _ => ⟨rfl, hI⟩, fun c => absurd rfl c⟩)
  · have hP := ho.2.2.1 p hp
    have hi := ltl hr
    have hl := hP.2.1
    have hm : ∀ v, (nxN (df (A.2.1 p) 255 i) 1024 0 = -4 → v = (1 : Int32)) → (¬ nxN (df (A.2.1 p) 255 i) 1024 0 = -4 → v = (0 : Int32)) → wp_X5_isRedundant (nI p) (nI i) st (fun r2 s2 => v = r2 ∧ Inv s2) := by
      intro v h1 h0
      unfold wp_X5_isRedundant wp_X5_witness
      refine M_isR1 hM ho hp hi (g1 (M_looks hp (hM.2.1 p hp) hP (fun s1 f1 f2 => ?_)))
      have hP' : MPs s1 p (A.2.1 p) := by unfold MPs; rw [f1 19 (by decide)]; exact hM.2.1 p hp
      have hI' := hI.keep (s1 := s1) (fun c hc => f1 c (by omega)) (fun c h1 h2 => f1 c (by omega))
      exact M_shows (K := 255) hp hP' hP f2 (by omega) ⟨fun c => absurd c (nxN_m1 1024 0 (by omega)), fun _ => ⟨fun c => ⟨h1 c, hI'⟩, fun c => ⟨h0 c, hI'⟩⟩⟩
    refine C_isR1 hC ho hp hi (g1 (C_pn hp (C_first (hC.2.1 p hp) hP hi ⟨fun c => hm _ (fun _ => rfl) (fun z => absurd c z), fun c => hm _ (fun z => absurd z c) (fun _ => rfl)⟩)))
