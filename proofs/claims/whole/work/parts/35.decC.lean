def rA (r : Rl) (q : Nat) : Bool := ((rb r (q / 128 % 8) && rb r (8 + q / 32 % 4)) && rb r (12 + q / 4 % 8)) && rb r (20 + q % 4)
def apN : List Rl → Nat → Nat
  | [], _ => 0
  | r :: L, q => (rA r q).toNat + 2 * apN L q
def denN : List Rl → Nat
  | [] => 0
  | r :: L => (decide (r.1 = 1)).toNat + 2 * denN L
def pmN : List Rl → Nat
  | [] => 0
  | r :: L => (!decide (r.1 = 1)).toNat + 2 * pmN L
theorem bit_cons (b : Bool) (n i : Nat) : (b.toNat + 2 * n).testBit i = if i = 0 then b else n.testBit (i - 1) := by
  cases i with
  | zero => cases b <;> simp [Nat.testBit_zero] <;> omega
  | succ i =>
    rw [if_neg (by omega), Nat.testBit_succ, show i + 1 - 1 = i by omega]
    congr 1
    cases b <;> simp <;> omega
theorem apN_bit (L : List Rl) (q : Nat) : ∀ i, (apN L q).testBit i = match L[i]? with | some r => rA r q | none => false := by
  induction L with
  | nil => intro i; simp [apN]
  | cons r L ih =>
    intro i
    unfold apN
    rw [bit_cons]
    cases i with
    | zero => rfl
    | succ i => rw [if_neg (by omega), show i + 1 - 1 = i by omega, ih i]; simp
theorem denN_bit (L : List Rl) : ∀ i, (denN L).testBit i = match L[i]? with | some r => decide (r.1 = 1) | none => false := by
  induction L with
  | nil => intro i; simp [denN]
  | cons r L ih =>
    intro i
    unfold denN
    rw [bit_cons]
    cases i with
    | zero => rfl
    | succ i => rw [if_neg (by omega), show i + 1 - 1 = i by omega, ih i]; simp
theorem pmN_bit (L : List Rl) : ∀ i, (pmN L).testBit i = match L[i]? with | some r => !decide (r.1 = 1) | none => false := by
  induction L with
  | nil => intro i; simp [pmN]
  | cons r L ih =>
    intro i
    unfold pmN
    rw [bit_cons]
    cases i with
    | zero => rfl
    | succ i => rw [if_neg (by omega), show i + 1 - 1 = i by omega, ih i]; simp
theorem bl (b : Bool) : b.toNat ≤ 1 := by cases b <;> simp
theorem apN_lt (L : List Rl) (q : Nat) : apN L q < 2 ^ L.length := by
  induction L with
  | nil => simp [apN]
  | cons r L ih => unfold apN; have := bl (rA r q); rw [List.length_cons, Nat.pow_succ]; omega
theorem denN_lt (L : List Rl) : denN L < 2 ^ L.length := by
  induction L with
  | nil => simp [denN]
  | cons r L ih => unfold denN; have := bl (decide (r.1 = 1)); rw [List.length_cons, Nat.pow_succ]; omega
theorem pmN_lt (L : List Rl) : pmN L < 2 ^ L.length := by
  induction L with
  | nil => simp [pmN]
  | cons r L ih => unfold pmN; have := bl (!decide (r.1 = 1)); rw [List.length_cons, Nat.pow_succ]; omega
theorem lt256 {n l : Nat} (h : n < 2 ^ l) (hl : l ≤ 8) : n < 256 := Nat.lt_of_lt_of_le h (Nat.pow_le_pow_right (by omega) hl)
theorem CP.den {R : Nat → Int32} {cn ca : Int32} {P : Pl} (h : CP R cn ca P) (hl : P.2.length ≤ 8) : R 24 = nI (denN P.2) := by
  refine mask_nI (w := 8) (by omega) (lt256 (denN_lt _) hl) (fun i hi => ?_) (fun i h1 h2 => h.hi hl (by omega) h1)
  rw [h.2.2 24 (by omega) i (by omega), denN_bit]
  unfold lb
  cases P.2[i]? with
  | none => rfl
  | some r => rfl
theorem CP.ap {R : Nat → Int32} {cn ca : Int32} {P : Pl} (h : CP R cn ca P) (hl : P.2.length ≤ 8) (q : Nat) : ((R (q / 128 % 8) &&& R (8 + q / 32 % 4)) &&& R (12 + q / 4 % 8)) &&& R (20 + q % 4) = nI (apN P.2 q) := by
  refine mask_nI (w := 8) (by omega) (lt256 (apN_lt _ _) hl) (fun i hi => ?_) (fun i h1 h2 => ?_)
  · rw [b_and, b_and, b_and, h.2.2 _ (by omega) i (by omega), h.2.2 _ (by omega) i (by omega), h.2.2 _ (by omega) i (by omega), h.2.2 _ (by omega) i (by omega), apN_bit]
    unfold lb
    cases P.2[i]? with
    | none => rfl
    | some r => rfl
  · rw [b_and, h.hi hl (by omega) h1]; simp
theorem s_applying {k q : Nat} {P : Pl} {st : St} {Q : Int32 → St → Prop} (hP : CPs st k P) (hl : P.2.length ≤ 8) (hq : q < 1024) (h : Q (nI (apN P.2 q)) st) : wp_X1_applying k (nI q) st Q := by
  have e1 : nI q >>> ((7 : Int32) &&& 31) &&& 7 = nI (q / 128 % 8) := by rw [pk_shrN (by omega) _ 7 (by decide), pk_andN (by omega) 3 (by decide)]
  have e2 : nI q >>> ((5 : Int32) &&& 31) &&& 3 = nI (q / 32 % 4) := by rw [pk_shrN (by omega) _ 5 (by decide), pk_andN (by omega) 2 (by decide)]
  have e3 : nI q >>> ((2 : Int32) &&& 31) &&& 7 = nI (q / 4 % 8) := by rw [pk_shrN (by omega) _ 2 (by decide), pk_andN (by omega) 3 (by decide)]
  have e4 : nI q &&& 3 = nI (q % 4) := by rw [pk_andN (by omega) 2 (by decide)]
  have f1 : (0 : Int32) + nI (q / 128 % 8) = nI (q / 128 % 8) := by rw [show (0 : Int32) = nI 0 from rfl, nI_add, Nat.zero_add]
  have f2 : (8 : Int32) + nI (q / 32 % 4) = nI (8 + q / 32 % 4) := nI_add 8 _
  have f3 : (12 : Int32) + nI (q / 4 % 8) = nI (12 + q / 4 % 8) := nI_add 12 _
  have f4 : (20 : Int32) + nI (q % 4) = nI (20 + q % 4) := nI_add 20 _
  unfold wp_X1_applying
  rw [e1, e2, e3, e4, f1, f2, f3, f4]
  refine ⟨vp_in_nI (by omega) (by omega), vp_in_nI (by omega) (by omega), vp_in_nI (by omega) (by omega), vp_in_nI (by omega) (by omega), ?_⟩
  rw [nI_clamp (by omega), nI_clamp (by omega), nI_clamp (by omega), nI_clamp (by omega), hP.ap hl q]
  exact h
def popc (n : Nat) : Nat := (n.testBit 0).toNat + (n.testBit 1).toNat + (n.testBit 2).toNat + (n.testBit 3).toNat + (n.testBit 4).toNat + (n.testBit 5).toNat + (n.testBit 6).toNat + (n.testBit 7).toNat
def bcI (x0 : Int32) : Int32 :=
  let x1 := x0 - ((ushr x0 (1 : Int32)) &&& (1431655765 : Int32))
  let x2 := (x1 &&& (858993459 : Int32)) + ((ushr x1 (2 : Int32)) &&& (858993459 : Int32))
  let x3 := (x2 + (ushr x2 (4 : Int32))) &&& (252645135 : Int32)
  let x4 := x3 + (ushr x3 (8 : Int32))
  let x5 := x4 + (ushr x4 (16 : Int32))
  x5 &&& (63 : Int32)
theorem bcI_popc : ∀ n, n < 256 → bcI (nI n) = nI (popc n) := by decide +kernel
theorem s_bitCount {n : Nat} {st : St} {Q : Int32 → St → Prop} (hn : n < 256) (h : Q (nI (popc n)) st) : wp_J6_bitCount_0f7a4 (nI n) st Q := by
  intro x1 e1 x2 e2 x3 e3 x4 e4 x5 e5
  subst e1; subst e2; subst e3; subst e4; subst e5
  rw [← bcI_popc n hn] at h
  exact h
def lowN (n : Nat) : Nat := if n.testBit 0 then 0 else if n.testBit 1 then 1 else if n.testBit 2 then 2 else if n.testBit 3 then 3 else if n.testBit 4 then 4 else if n.testBit 5 then 5 else if n.testBit 6 then 6 else 7
theorem low_eq : ∀ n, n < 256 → n ≠ 0 → nI n &&& -(nI n) = nI (2 ^ lowN n) ∧ n.testBit (lowN n) = true ∧ lowN n < 8 := by decide +kernel
theorem popc_0 : ∀ n, n < 256 → (popc n = 0 ↔ n = 0) := by decide +kernel
theorem popc_le (n : Nat) : popc n ≤ 8 := by
  unfold popc
  have h0 := bl (n.testBit 0); have h1 := bl (n.testBit 1); have h2 := bl (n.testBit 2); have h3 := bl (n.testBit 3)
  have h4 := bl (n.testBit 4); have h5 := bl (n.testBit 5); have h6 := bl (n.testBit 6); have h7 := bl (n.testBit 7)
  omega
theorem popc_add (S D : Nat) : popc S = popc (S ^^^ (S &&& D)) + popc (S &&& D) := by
  have key : ∀ s d : Bool, s.toNat = (s ^^ (s && d)).toNat + (s && d).toNat := by decide
  unfold popc
  simp only [Nat.testBit_xor, Nat.testBit_and]
  have h0 := key (S.testBit 0) (D.testBit 0); have h1 := key (S.testBit 1) (D.testBit 1); have h2 := key (S.testBit 2) (D.testBit 2); have h3 := key (S.testBit 3) (D.testBit 3)
  have h4 := key (S.testBit 4) (D.testBit 4); have h5 := key (S.testBit 5) (D.testBit 5); have h6 := key (S.testBit 6) (D.testBit 6); have h7 := key (S.testBit 7) (D.testBit 7)
  omega
/-- what an algorithm decides where just the rules of S apply, D of them denying -/
def decN (a D S : Nat) : Nat :=
  if S = 0 then 2 else
  if a = 0 then (if D.testBit (lowN S) then 1 else 0) else
  if a = 1 then (if S &&& D = 0 then 0 else 1) else
  if a = 2 then (if S &&& D = S then 1 else 0) else
  if a = 3 then (if popc S ≤ 1 then (if S &&& D = 0 then 0 else 1) else 3) else
  if popc (S ^^^ (S &&& D)) = popc (S &&& D) then 3 else if popc (S ^^^ (S &&& D)) ≤ popc (S &&& D) then 1 else 0
theorem nI0 {n : Nat} (h : n < 2 ^ 31) : nI n = 0 ↔ n = 0 := nI_eq (b := 0) h (by omega)
theorem and_lt {S D : Nat} (h : S < 256) : S &&& D < 256 := Nat.lt_of_le_of_lt Nat.and_le_left h
theorem xor_lt {S D : Nat} (h : S < 256) : S ^^^ (S &&& D) < 256 := Nat.xor_lt_two_pow (n := 8) h (and_lt h)
theorem andnot (S D : Nat) : nI S &&& (nI (S &&& D) ^^^ (-1 : Int32)) = nI (S ^^^ (S &&& D)) := by
  apply b_ext
  intro i hi
  rw [b_and, b_inv _ hi, b_nI _ hi, b_nI _ hi, b_nI _ hi, Nat.testBit_xor, Nat.testBit_and]
  cases S.testBit i <;> cases D.testBit i <;> rfl
theorem and_pow {n i : Nat} : n &&& 2 ^ i = 0 ↔ n.testBit i = false := by
  constructor
  · intro h
    have := congrArg (fun z => z.testBit i) h
    simpa [Nat.testBit_and, Nat.testBit_two_pow_self] using this
  · intro h
    apply Nat.eq_of_testBit_eq
    intro j
    rw [Nat.testBit_and, Nat.testBit_two_pow]
    by_cases e : i = j
    · subst e; simp [h]
    · simp [e]
theorem s_decAmong {k S : Nat} {P : Pl} {st : St} {Q : Int32 → St → Prop} (hP : CPs st k P) (ho : okP P) (hS : S < 256) (h : Q (nI (decN P.1 (denN P.2) S)) st) : wp_X1_decisionAmong k (nI S) st Q := by
  have hl := ho.2.1
  have ha := ho.1
  have hsd := and_lt (S := S) (D := denN P.2) hS
  have hxl := xor_lt (S := S) (D := denN P.2) hS
  unfold decN at h
  refine ⟨fun c => ?_, fun c => ⟨v24, fun x hx => ?_⟩⟩
  · have := (nI0 (by omega)).mp c
    rw [if_pos this] at h
    exact h
  · have hS0 : S ≠ 0 := fun z => c (by rw [z]; rfl)
    rw [if_neg hS0] at h
    rw [c24, hP.den hl, nx_and] at hx
    subst hx
    rw [hP.2.1]
    refine ⟨fun q => ?_, fun q => ?_, fun q => ?_, fun q => ?_, fun q => ?_⟩
    · have q := (nI_eq (b := 0) (by omega) (by omega)).mp q
      rw [if_pos q] at h
      obtain ⟨l1, l2, l3⟩ := low_eq S hS hS0
      unfold wp_J6_lowestOneBit_0f7a4
      have hp : (2 : Nat) ^ lowN S < 2 ^ 8 := Nat.pow_lt_pow_right (by omega) l3
      have e : ∀ z : Nat, (S &&& denN P.2) &&& 2 ^ lowN S < 2 ^ 31 := fun _ => Nat.lt_of_le_of_lt Nat.and_le_left (by omega)
      rw [l1]
      dsimp only
      rw [nx_and]
      have hb : (S &&& denN P.2).testBit (lowN S) = (denN P.2).testBit (lowN S) := by rw [Nat.testBit_and, l2]; simp
      refine ⟨fun z => ?_, fun z => ?_⟩
      · have z := and_pow.mp ((nI0 (e 0)).mp z)
        rw [hb] at z
        rw [z] at h
        exact h
      · have z : (denN P.2).testBit (lowN S) = true := by
          rw [← hb]
          cases hq : (S &&& denN P.2).testBit (lowN S) with
          | true => rfl
          | false => exact absurd ((nI0 (e 0)).mpr (and_pow.mpr hq)) z
        rw [z] at h
        exact h
    · have q := (nI_eq (b := 1) (by omega) (by omega)).mp q
      rw [if_neg (by omega), if_pos q] at h
      refine ⟨fun z => ?_, fun z => ?_⟩
      · rw [if_pos ((nI0 (by omega)).mp z)] at h; exact h
      · rw [if_neg (fun y => z ((nI0 (by omega)).mpr y))] at h; exact h
    · have q := (nI_eq (b := 2) (by omega) (by omega)).mp q
      rw [if_neg (by omega), if_neg (by omega), if_pos q] at h
      refine ⟨fun z => ?_, fun z => ?_⟩
      · rw [if_pos ((nI_eq (by omega) (by omega)).mp z)] at h; exact h
      · rw [if_neg (fun y => z ((nI_eq (by omega) (by omega)).mpr y))] at h; exact h
    · have q := (nI_eq (b := 3) (by omega) (by omega)).mp q
      rw [if_neg (by omega), if_neg (by omega), if_neg (by omega), if_pos q] at h
      have hpc := popc_le S
      refine s_bitCount hS ⟨fun y => ?_, fun y => ?_⟩
      · rw [if_pos ((nI_leI (b := 1) (by omega) (by omega)).mp y)] at h
        refine ⟨fun z => ?_, fun z => ?_⟩
        · rw [if_pos ((nI0 (by omega)).mp z)] at h; exact h
        · rw [if_neg (fun y => z ((nI0 (by omega)).mpr y))] at h; exact h
      · rw [if_neg (fun w => y ((nI_leI (b := 1) (by omega) (by omega)).mpr w))] at h
        exact h
    · have n0 : ¬ P.1 = 0 := fun z => q.1 (by rw [z]; rfl)
      have n1 : ¬ P.1 = 1 := fun z => q.2.1 (by rw [z]; rfl)
      have n2 : ¬ P.1 = 2 := fun z => q.2.2.1 (by rw [z]; rfl)
      have n3 : ¬ P.1 = 3 := fun z => q.2.2.2 (by rw [z]; rfl)
      rw [if_neg n0, if_neg n1, if_neg n2, if_neg n3] at h
      rw [andnot]
      have h1 := popc_le (S ^^^ (S &&& denN P.2))
      have h2 := popc_le (S &&& denN P.2)
      refine s_bitCount hxl (s_bitCount hsd ?_)
      refine ⟨fun z => ?_, fun z => ?_⟩
      · rw [if_pos ((nI_eq (by omega) (by omega)).mp z)] at h; exact h
      · rw [if_neg (fun y => z ((nI_eq (by omega) (by omega)).mpr y))] at h
        refine ⟨fun y => ?_, fun y => ?_⟩
        · rw [if_pos ((nI_leI (by omega) (by omega)).mp y)] at h; exact h
        · rw [if_neg (fun w => y ((nI_leI (by omega) (by omega)).mpr w))] at h; exact h
theorem s_decOn {k q : Nat} {P : Pl} {st : St} {Q : Int32 → St → Prop} (hP : CPs st k P) (ho : okP P) (hq : q < 1024) (h : Q (nI (decN P.1 (denN P.2) (apN P.2 q))) st) : wp_X1_decisionOn k (nI q) st Q :=
  s_applying hP ho.2.1 hq (s_decAmong hP ho (lt256 (apN_lt _ _) ho.2.1) h)
