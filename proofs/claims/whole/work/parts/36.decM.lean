def MPs (st : St) (p : Nat) (P : Pl) : Prop := MP (fun j => st 19 (42 * p + j)) P
theorem m42 (p : Nat) : (42 : Int32) * nI p = nI (42 * p) := pk_mul 42 p
theorem m5 (p : Nat) : (5 : Int32) * nI p = nI (5 * p) := pk_mul 5 p
theorem a1 (a : Nat) : nI a + (1 : Int32) = nI (a + 1) := nI_1 a
theorem a2 (a : Nat) : nI a + (2 : Int32) = nI (a + 2) := nI_add a 2
def pt (q x : Nat) : Nat := match x with
  | 0 => q / 128
  | 1 => q / 32 % 4
  | 2 => q / 4 % 8
  | _ => q % 4
theorem pt_lt {q x : Nat} (hq : q < 1024) (hx : x < 4) : pt q x < vcN x := by
  rcases (show x = 0 ∨ x = 1 ∨ x = 2 ∨ x = 3 by omega) with rfl | rfl | rfl | rfl
  · show q / 128 < 8; omega
  · show q / 32 % 4 < 4; omega
  · show q / 4 % 8 < 8; omega
  · show q % 4 < 4; omega
theorem s_partOf {q x : Nat} {st : St} {Q : Int32 → St → Prop} (hq : q < 1024) (hx : x < 4) (h : Q (nI (pt q x)) st) : wp_X5_partOf (nI q) (nI x) st Q := by
  have d1 : nI q / (128 : Int32) = nI (q / 128) := pk_div (d := 128) (by omega) (by omega) (by omega)
  have d2 : nI q / (32 : Int32) = nI (q / 32) := pk_div (d := 32) (by omega) (by omega) (by omega)
  have d3 : nI q / (4 : Int32) = nI (q / 4) := pk_div (d := 4) (by omega) (by omega) (by omega)
  have r2 : nI (q / 32) - nI (q / 32) / (4 : Int32) * (4 : Int32) = nI (q / 32 % 4) := pk_rem (d := 4) (by omega) (by omega) (by omega)
  have r3 : nI (q / 4) - nI (q / 4) / (8 : Int32) * (8 : Int32) = nI (q / 4 % 8) := pk_rem (d := 8) (by omega) (by omega) (by omega)
  have r4 : nI q - nI q / (4 : Int32) * (4 : Int32) = nI (q % 4) := pk_rem (d := 4) (by omega) (by omega) (by omega)
  unfold wp_X5_partOf
  rw [r4, d1, d2, d3, r2, r3]
  rcases (show x = 0 ∨ x = 1 ∨ x = 2 ∨ x = 3 by omega) with rfl | rfl | rfl | rfl
  · exact ⟨fun _ => h, fun c => absurd c (by decide), fun c => absurd c (by decide), fun c => absurd rfl c.1⟩
  · exact ⟨fun c => absurd c (by decide), fun _ => h, fun c => absurd c (by decide), fun c => absurd rfl c.2.1⟩
  · exact ⟨fun c => absurd c (by decide), fun c => absurd c (by decide), fun _ => h, fun c => absurd rfl c.2.2⟩
  · exact ⟨fun c => absurd c (by decide), fun c => absurd c (by decide), fun c => absurd c (by decide), fun _ => h⟩
def bI (b : Bool) : Int32 := if b then 1 else 0
theorem s_has {x : Int32} {n : Nat} {st : St} {Q : Int32 → St → Prop} (hn : n < 32) (h : Q (bI (bt x n)) st) : wp_X5_has x (nI n) st Q := by
  have h1 := (and1 (x >>> (nI n &&& 31))).2
  rw [shr1_bt _ hn] at h1
  refine ⟨fun c => ?_, fun c => ?_⟩
  · rw [decide_eq_true c] at h1
    rw [← h1] at h; exact h
  · rw [decide_eq_false c] at h1
    rw [← h1] at h; exact h
def allg (r : Rl) (q : Nat) : Nat → Bool
  | 0 => true
  | a + 1 => allg r q a && (fld r (a + 1)).testBit (pt q a)
theorem allg_4 {r : Rl} {q : Nat} (hq : q < 1024) : allg r q 4 = rA r q := by
  have e0 := rb_attr r 0 (pt q 0) (by omega) (pt_lt hq (by omega))
  have e1 := rb_attr r 1 (pt q 1) (by omega) (pt_lt hq (by omega))
  have e2 := rb_attr r 2 (pt q 2) (by omega) (pt_lt hq (by omega))
  have e3 := rb_attr r 3 (pt q 3) (by omega) (pt_lt hq (by omega))
  unfold rA
  rw [show q / 128 % 8 = frN 0 + pt q 0 by show q / 128 % 8 = 0 + q / 128; omega, e0]
  rw [show 8 + q / 32 % 4 = frN 1 + pt q 1 from rfl, e1, show 12 + q / 4 % 8 = frN 2 + pt q 2 from rfl, e2, show 20 + q % 4 = frN 3 + pt q 3 from rfl, e3]
  simp [allg]
theorem or_bit {y z : Int32} {m i : Nat} {b : Bool} (hi : i < 32) (h1 : ∀ a, a < i → bt y a = m.testBit a) (h2 : ∀ a, i ≤ a → a < 32 → bt y a = false) (hb : m.testBit i = b) (hz : z = y ||| (if b then (1 : Int32) <<< (nI i &&& 31) else 0)) : (∀ a, a < i + 1 → bt z a = m.testBit a) ∧ (∀ a, i + 1 ≤ a → a < 32 → bt z a = false) := by
  have key : ∀ a, a < 32 → bt z a = (bt y a || (decide (a = i) && b)) := by
    intro a ha
    rw [hz, b_or]
    cases b with
    | true => rw [if_pos rfl, b_one i hi a ha]; simp
    | false => rw [if_neg (by decide), b_0]; simp
  refine ⟨fun a ha => ?_, fun a h3 h4 => ?_⟩
  · rw [key a (by omega)]
    by_cases q : a = i
    · subst q; rw [h2 a (by omega) hi, hb]; simp
    · rw [decide_eq_false q, h1 a (by omega)]; simp
  · rw [key a h4, h2 a (by omega) h4, decide_eq_false (by omega)]; simp
theorem s_rulesFor {p q : Nat} {P : Pl} {st : St} {Q : Int32 → St → Prop} (hp : p < 2) (hP : MPs st p P) (ho : okP P) (hq : q < 1024) (h : Q (nI (apN P.2 q)) st) : wp_X5_rulesFor (nI p) (nI q) st Q := by
  have hl := ho.2.1
  intro P5 P40 h5 h40
  have key : ∀ d i y, i + d = P.2.length → (∀ a, a < i → bt y a = (apN P.2 q).testBit a) → (∀ a, i ≤ a → a < 32 → bt y a = false) → P5 y (nI i) st := by
    intro d
    induction d with
    | zero =>
      intro i y hi h1 h2
      refine h5 _ _ _ ?_
      rw [m42, nI_clamp (by omega), show st 19 (42 * p) = nI P.2.length from hP.1]
      refine ⟨vp_in_nI (by omega) (by omega), fun _ => ?_, fun c => absurd (nI_le (by omega) (by omega)) c⟩
      have hlt := apN_lt P.2 q
      rw [show P.2.length = i by omega] at hlt
      rw [mask_nI (by omega) hlt h1 h2]
      exact h
    | succ d ih =>
      intro i y hi h1 h2
      have hi8 : i < P.2.length := by omega
      obtain ⟨r, hr⟩ : ∃ r, P.2[i]? = some r := ⟨_, List.getElem?_eq_getElem hi8⟩
      have hb : (apN P.2 q).testBit i = rA r q := by rw [apN_bit, hr]
      refine h5 _ _ _ ?_
      rw [m42, nI_clamp (by omega), show st 19 (42 * p) = nI P.2.length from hP.1]
      refine ⟨vp_in_nI (by omega) (by omega), fun c => absurd c (nI_ge hi8 (by omega)), fun _ x5 hx5 => ?_⟩
      rw [m5, a2, nI_add, a1] at hx5
      subst hx5
      have nxt : ∀ z, z = y ||| (if rA r q then (1 : Int32) <<< (nI i &&& 31) else 0) → P5 z (nI (i + 1)) st := by
        intro z hz
        obtain ⟨g1, g2⟩ := or_bit (m := apN P.2 q) (by omega) h1 h2 hb hz
        exact ih (i + 1) z (by omega) g1 g2
      have inner : ∀ e a, a + e = 4 → P40 y (nI i) (nI (42 * p + 2 + 5 * i + 1)) (bI (allg r q a)) (nI a) st := by
        intro e
        induction e with
        | zero =>
          intro a ha
          have : a = 4 := by omega
          subst this
          rw [allg_4 hq]
          refine h40 _ _ _ _ _ _ ⟨fun _ => ⟨fun c z hz w hw => ?_, fun c z hz w hw => ?_⟩, fun c => absurd (by decide) c⟩
          · rw [hw, a1]
            refine nxt z ?_
            cases hA : rA r q with
            | true => rw [hA] at c; exact absurd c (by decide)
            | false => rw [hz]; rfl
          · rw [hw, a1]
            refine nxt z ?_
            cases hA : rA r q with
            | true => rw [hz]; rfl
            | false => rw [hA] at c; exact absurd rfl c
        | succ e ih2 =>
          intro a ha
          refine h40 _ _ _ _ _ _ ⟨fun c => absurd c (nI_ge (a := a) (b := 4) (by omega) (by omega)), fun _ => ⟨fun c z hz => ?_, fun c => ?_⟩⟩
          · have hf : allg r q a = false := by cases hA : allg r q a with
              | true => rw [hA] at c; exact absurd c (by decide)
              | false => rfl
            rw [hz, a1]
            have := ih2 (a + 1) (by omega)
            rw [show allg r q (a + 1) = false by show (allg r q a && _) = false; rw [hf]; simp] at this
            exact this
          · have hf : allg r q a = true := by cases hA : allg r q a with
              | true => rfl
              | false => rw [hA] at c; exact absurd rfl c
            rw [nI_add, nI_clamp (by omega)]
            refine ⟨vp_in_nI (by omega) (by omega), s_partOf hq (by omega) ?_⟩
            have hfl := hP.2.2 i r hr (a + 1) (by omega)
            have hfl : st 19 (42 * p + 2 + 5 * i + 1 + a) = nI (fld r (a + 1)) := by rw [← hfl]; congr 1; omega
            have hv := vcN_le a (by omega)
            have hpt := pt_lt (q := q) (x := a) hq (by omega)
            rw [hfl]
            refine s_has (by omega) ?_
            rw [b_nI _ (by omega)]
            have hnx := ih2 (a + 1) (by omega)
            rw [show allg r q (a + 1) = (fld r (a + 1)).testBit (pt q a) by show (allg r q a && _) = _; rw [hf]; simp] at hnx
            refine ⟨fun c z hz => ?_, fun c z hz => ?_⟩
            · rw [hz, a1]
              cases hA : (fld r (a + 1)).testBit (pt q a) with
              | true => rw [hA] at c; exact absurd c (by decide)
              | false => rw [hA] at hnx; exact hnx
            · rw [hz, a1]
              cases hA : (fld r (a + 1)).testBit (pt q a) with
              | true => rw [hA] at hnx; exact hnx
              | false => rw [hA] at c; exact absurd rfl c
      exact inner 4 0 (by omega)
  exact key P.2.length 0 0 (by omega) (fun a ha => absurd ha (by omega)) (fun a _ _ => b_0 a)
theorem s_permits {p : Nat} {P : Pl} {st : St} {Q : Int32 → St → Prop} (hp : p < 2) (hP : MPs st p P) (ho : okP P) (h : Q (nI (pmN P.2)) st) : wp_X5_permits (nI p) st Q := by
  have hl := ho.2.1
  intro P4 h4
  have key : ∀ d i y, i + d = P.2.length → (∀ a, a < i → bt y a = (pmN P.2).testBit a) → (∀ a, i ≤ a → a < 32 → bt y a = false) → P4 y (nI i) st := by
    intro d
    induction d with
    | zero =>
      intro i y hi h1 h2
      refine h4 _ _ _ ?_
      rw [m42, nI_clamp (by omega), show st 19 (42 * p) = nI P.2.length from hP.1]
      refine ⟨vp_in_nI (by omega) (by omega), fun _ => ?_, fun c => absurd (nI_le (by omega) (by omega)) c⟩
      have hlt := pmN_lt P.2
      rw [show P.2.length = i by omega] at hlt
      rw [mask_nI (by omega) hlt h1 h2]
      exact h
    | succ d ih =>
      intro i y hi h1 h2
      have hi8 : i < P.2.length := by omega
      obtain ⟨r, hr⟩ : ∃ r, P.2[i]? = some r := ⟨_, List.getElem?_eq_getElem hi8⟩
      have hb : (pmN P.2).testBit i = !decide (r.1 = 1) := by rw [pmN_bit, hr]
      have hr2 := (ho.2.2 i r hr).1
      refine h4 _ _ _ ?_
      rw [m42, nI_clamp (by omega), show st 19 (42 * p) = nI P.2.length from hP.1, m5, a2, nI_add, nI_clamp (by omega)]
      have hfl := hP.2.2 i r hr 0 (by omega)
      have hfl : st 19 (42 * p + 2 + 5 * i) = nI r.1 := by rw [show r.1 = fld r 0 from rfl, ← hfl]; congr 1; omega
      rw [hfl]
      refine ⟨vp_in_nI (by omega) (by omega), fun c => absurd c (nI_ge hi8 (by omega)), fun _ => ⟨vp_in_nI (by omega) (by omega), fun c z hz w hw => ?_, fun c z hz w hw => ?_⟩⟩
      · have c := (nI0 (by omega)).mp c
        rw [hw, a1]
        obtain ⟨g1, g2⟩ := or_bit (z := z) (m := pmN P.2) (b := true) (by omega) h1 h2 (by rw [hb, c]; rfl) (by rw [hz]; rfl)
        exact ih (i + 1) z (by omega) g1 g2
      · have c : r.1 = 1 := by
          rcases (show r.1 = 0 ∨ r.1 = 1 by omega) with q | q
          · exact absurd (by rw [q]; rfl) c
          · exact q
        rw [hw, a1]
        obtain ⟨g1, g2⟩ := or_bit (z := z) (m := pmN P.2) (b := false) (by omega) h1 h2 (by rw [hb, c]; rfl) (by rw [hz]; rfl)
        exact ih (i + 1) z (by omega) g1 g2
  exact key P.2.length 0 0 (by omega) (fun a ha => absurd ha (by omega)) (fun a _ _ => b_0 a)
theorem shrand (n : Nat) {i : Nat} (hi : i < 32) : (nI n >>> (nI i &&& 31)) &&& 1 = nI (n.testBit i).toNat := by
  have h1 := and1 (nI n >>> (nI i &&& 31))
  have h2 := h1.2
  rw [shr1_bt _ hi, b_nI _ hi] at h2
  rcases h1.1 with z | z
  · rw [z] at h2 ⊢
    cases hb : n.testBit i with
    | true => rw [hb] at h2; exact absurd h2 (by decide)
    | false => rfl
  · rw [z] at h2 ⊢
    cases hb : n.testBit i with
    | true => rfl
    | false => rw [hb] at h2; exact absurd h2 (by decide)
def pcs (n : Nat) : Nat → Nat
  | 0 => 0
  | i + 1 => pcs n i + (n.testBit i).toNat
theorem pcs_8 (n : Nat) : pcs n 8 = popc n := by simp only [pcs, popc]; omega
theorem s_bits {n : Nat} {st : St} {Q : Int32 → St → Prop} (h : Q (nI (popc n)) st) : wp_X5_bits (nI n) st Q := by
  intro P4 h4
  have key : ∀ d i, i + d = 8 → P4 (nI (pcs n i)) (nI i) st := by
    intro d
    induction d with
    | zero =>
      intro i hi
      have : i = 8 := by omega
      subst this
      refine h4 _ _ _ ⟨fun _ => by rw [pcs_8]; exact h, fun c => absurd (by decide) c⟩
    | succ d ih =>
      intro i hi
      refine h4 _ _ _ ⟨fun c => absurd c (nI_ge (a := i) (b := 8) (by omega) (by omega)), fun _ x hx y hy => ?_⟩
      rw [hx, hy, a1, shrand n (by omega), nI_add]
      exact ih (i + 1) (by omega)
  exact key 8 0 (by omega)
theorem and_pm (L : List Rl) {S : Nat} (hS : S < 2 ^ L.length) : S &&& pmN L = S ^^^ (S &&& denN L) := by
  apply Nat.eq_of_testBit_eq
  intro i
  rw [Nat.testBit_and, Nat.testBit_xor, Nat.testBit_and, pmN_bit, denN_bit]
  by_cases hi : i < L.length
  · rw [List.getElem?_eq_getElem hi]
    cases S.testBit i <;> simp
  · rw [Nat.testBit_lt_two_pow (Nat.lt_of_lt_of_le hS (Nat.pow_le_pow_right (by omega) (by omega : L.length ≤ i)))]; simp
theorem s_decided {a S : Nat} {L : List Rl} {st : St} {Q : Int32 → St → Prop} (ha : a < 5) (hl : L.length ≤ 8) (hS : S < 2 ^ L.length) (h : Q (nI (decN a (denN L) S)) st) : wp_X5_decided (nI a) (nI S) (nI (pmN L)) st Q := by
  have hS8 := lt256 hS hl
  have hsd := and_lt (S := S) (D := denN L) hS8
  have hxl := xor_lt (S := S) (D := denN L) hS8
  have hadd := popc_add S (denN L)
  have l1 := popc_le S
  unfold decN at h
  refine ⟨fun c => ?_, fun c => ?_⟩
  · rw [if_pos ((nI0 (by omega)).mp c)] at h; exact h
  · have hS0 : S ≠ 0 := fun z => c (by rw [z]; rfl)
    rw [if_neg hS0] at h
    rw [nx_and, and_pm L hS]
    refine s_bits (s_bits (fun x hx => ?_))
    rw [pk_sub (by omega), show popc S - popc (S ^^^ (S &&& denN L)) = popc (S &&& denN L) by omega] at hx
    subst hx
    have z1 := popc_0 _ hsd
    have z2 := popc_0 _ hxl
    have hxe : S ^^^ (S &&& denN L) = 0 ↔ S &&& denN L = S := by
      constructor
      · intro z
        apply Nat.eq_of_testBit_eq
        intro i
        have e := congrArg (fun n => n.testBit i) z
        simp only [Nat.testBit_xor, Nat.testBit_and, Nat.zero_testBit] at e
        rw [Nat.testBit_and]
        revert e
        cases S.testBit i <;> cases (denN L).testBit i <;> simp
      · intro z; rw [z]; exact Nat.xor_self S
    refine ⟨fun q => ?_, fun q => ?_, fun q => ?_, fun q => ?_, fun q => ?_⟩
    · have q := (nI_eq (b := 0) (by omega) (by omega)).mp q
      rw [if_pos q] at h
      intro x5 hx5
      obtain ⟨g1, g2, g3⟩ := low_eq S hS8 hS0
      rw [g1] at hx5
      subst hx5
      have hp : (2 : Nat) ^ lowN S < 2 ^ 8 := Nat.pow_lt_pow_right (by omega) g3
      have hlow : lowN S < L.length := by
        rcases Nat.lt_or_ge (lowN S) L.length with y | y
        · exact y
        · rw [Nat.testBit_lt_two_pow (Nat.lt_of_lt_of_le hS (Nat.pow_le_pow_right (by omega) y))] at g2
          exact absurd g2 (by decide)
      have hpd : (pmN L).testBit (lowN S) = !(denN L).testBit (lowN S) := by
        rw [pmN_bit, denN_bit, List.getElem?_eq_getElem hlow]
      rw [nx_and, Nat.and_comm]
      have e : pmN L &&& 2 ^ lowN S < 2 ^ 31 := Nat.lt_of_le_of_lt Nat.and_le_right (by omega)
      refine ⟨fun z => ?_, fun z => ?_⟩
      · have z := and_pow.mp ((nI0 e).mp z)
        rw [hpd] at z
        have z : (denN L).testBit (lowN S) = true := by simpa using z
        rw [z] at h; exact h
      · have z : (denN L).testBit (lowN S) = false := by
          cases hq : (pmN L).testBit (lowN S) with
          | true => rw [hpd] at hq; simpa using hq
          | false => exact absurd ((nI0 e).mpr (and_pow.mpr hq)) z
        rw [z] at h; exact h
    · have q := (nI_eq (b := 1) (by omega) (by omega)).mp q
      rw [if_neg (by omega), if_pos q] at h
      refine ⟨fun z => ?_, fun z => ?_⟩
      · have z := (nI_leI (b := 0) (by omega) (by omega)).mp z
        rw [if_pos (z1.mp (by omega))] at h; exact h
      · rw [if_neg (fun y => z (nI_le (b := 0) (by rw [z1.mpr y]; omega) (by omega)))] at h; exact h
    · have q := (nI_eq (b := 2) (by omega) (by omega)).mp q
      rw [if_neg (by omega), if_neg (by omega), if_pos q] at h
      refine ⟨fun z => ?_, fun z => ?_⟩
      · have z := (nI_leI (b := 0) (by omega) (by omega)).mp z
        rw [if_pos (hxe.mp (z2.mp (by omega)))] at h; exact h
      · rw [if_neg (fun y => z (nI_le (b := 0) (by rw [z2.mpr (hxe.mpr y)]; omega) (by omega)))] at h; exact h
    · have q := (nI_eq (b := 3) (by omega) (by omega)).mp q
      rw [if_neg (by omega), if_neg (by omega), if_neg (by omega), if_pos q] at h
      have hpos : popc S ≠ 0 := fun z => hS0 ((popc_0 S hS8).mp z)
      rw [nI_add, ← hadd]
      refine ⟨fun z => ?_, fun z => ?_⟩
      · have z := (nI_leI (b := 1) (by omega) (by omega)).mp z
        rw [if_pos z] at h
        refine ⟨fun y => ?_, fun y => ?_⟩
        · have y := (nI_eq (b := 1) (by omega) (by omega)).mp y
          rw [if_pos (z1.mp (by omega))] at h; exact h
        · have y : popc (S ^^^ (S &&& denN L)) ≠ 1 := fun w => y (by rw [w]; rfl)
          rw [if_neg (fun w => y (by have := z1.mpr w; omega))] at h; exact h
      · rw [if_neg (fun w => z (nI_le (b := 1) w (by omega)))] at h; exact h
    · have n0 : ¬ a = 0 := fun z => q.1 (by rw [z]; rfl)
      have n1 : ¬ a = 1 := fun z => q.2.1 (by rw [z]; rfl)
      have n2 : ¬ a = 2 := fun z => q.2.2.1 (by rw [z]; rfl)
      have n3 : ¬ a = 3 := fun z => q.2.2.2 (by rw [z]; rfl)
      rw [if_neg n0, if_neg n1, if_neg n2, if_neg n3] at h
      refine ⟨fun z => ?_, fun z => ?_⟩
      · have z := (nI_leI (by omega) (by omega)).mp z
        refine ⟨fun y => ?_, fun y => ?_⟩
        · have y := (nI_leI (by omega) (by omega)).mp y
          rw [if_pos (by omega)] at h; exact h
        · have y : ¬ popc (S &&& denN L) ≤ popc (S ^^^ (S &&& denN L)) := fun w => y (nI_le w (by omega))
          rw [if_neg (by omega), if_pos z] at h; exact h
      · have z : ¬ popc (S ^^^ (S &&& denN L)) ≤ popc (S &&& denN L) := fun w => z (nI_le w (by omega))
        rw [if_neg (by omega), if_neg z] at h; exact h
theorem s_decision {p q : Nat} {P : Pl} {st : St} {Q : Int32 → St → Prop} (hp : p < 2) (hP : MPs st p P) (ho : okP P) (hq : q < 1024) (h : Q (nI (decN P.1 (denN P.2) (apN P.2 q))) st) : wp_X5_decision (nI p) (nI q) st Q := by
  unfold wp_X5_decision
  rw [m42, a1, nI_clamp (by omega), show st 19 (42 * p + 1) = nI P.1 from hP.2.1]
  exact ⟨vp_in_nI (by omega) (by omega), s_rulesFor hp hP ho hq (s_permits hp hP ho (s_decided ho.1 ho.2.1 (apN_lt _ _) h))⟩
