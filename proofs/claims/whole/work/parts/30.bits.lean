def bt (x : Int32) (i : Nat) : Bool := x.toBitVec.getLsbD i
theorem b_ext {x y : Int32} (h : ∀ i, i < 32 → bt x i = bt y i) : x = y := Int32.toBitVec_inj.mp (BitVec.eq_of_getLsbD_eq (fun i hi => h i hi))
theorem b_or (x y : Int32) (i : Nat) : bt (x ||| y) i = (bt x i || bt y i) := by unfold bt; rw [Int32.toBitVec_or, BitVec.getLsbD_or]
theorem b_and (x y : Int32) (i : Nat) : bt (x &&& y) i = (bt x i && bt y i) := by unfold bt; rw [Int32.toBitVec_and, BitVec.getLsbD_and]
theorem b_xor (x y : Int32) (i : Nat) : bt (x ^^^ y) i = (bt x i ^^ bt y i) := by unfold bt; rw [Int32.toBitVec_xor, BitVec.getLsbD_xor]
theorem b_big {x : Int32} {i : Nat} (h : 32 ≤ i) : bt x i = false := BitVec.getLsbD_of_ge _ _ h
theorem b_255 (i : Nat) : bt 255 i = decide (i < 8) := by
  rcases Nat.lt_or_ge i 32 with h | h
  · exact (by decide +kernel : ∀ i, i < 32 → bt 255 i = decide (i < 8)) i h
  · rw [b_big h, decide_eq_false (by omega)]
theorem b_65535 (i : Nat) : bt 65535 i = decide (i < 16) := by
  rcases Nat.lt_or_ge i 32 with h | h
  · exact (by decide +kernel : ∀ i, i < 32 → bt 65535 i = decide (i < 16)) i h
  · rw [b_big h, decide_eq_false (by omega)]
theorem b_m1 : ∀ i, i < 32 → bt (-1) i = true := by decide +kernel
theorem b_0 (i : Nat) : bt 0 i = false := BitVec.getLsbD_zero
theorem s_l : ∀ n, n < 32 → ((nI n &&& 31).toBitVec.smod 32).toNat = n := by decide +kernel
theorem s_u : ∀ n, n < 32 → (((nI n).toUInt32 &&& Int32.toUInt32 31).toBitVec % 32).toNat = n := by decide +kernel
theorem b_shl (n : Nat) (hn : n < 32) (x : Int32) {i : Nat} (hi : i < 32) : bt (x <<< (nI n &&& 31)) i = (decide (n ≤ i) && bt x (i - n)) := by
  unfold bt
  rw [Int32.toBitVec_shiftLeft]
  show (x.toBitVec <<< ((nI n &&& 31).toBitVec.smod 32).toNat).getLsbD i = _
  rw [s_l n hn, BitVec.getLsbD_shiftLeft]
  rcases Nat.lt_or_ge i n with h | h
  · simp [h, Nat.not_le.mpr h]
  · simp [hi, h, Nat.not_lt.mpr h]
theorem b_ushr (n : Nat) (hn : n < 32) (x : Int32) (i : Nat) : bt ((x.toUInt32 >>> ((nI n).toUInt32 &&& Int32.toUInt32 31)).toInt32) i = bt x (n + i) := by
  show (x.toUInt32 >>> ((nI n).toUInt32 &&& Int32.toUInt32 31)).toBitVec.getLsbD i = x.toUInt32.toBitVec.getLsbD (n + i)
  rw [UInt32.toBitVec_shiftRight]
  show (x.toUInt32.toBitVec >>> (((nI n).toUInt32 &&& Int32.toUInt32 31).toBitVec % 32).toNat).getLsbD i = _
  rw [s_u n hn, BitVec.getLsbD_ushiftRight]
theorem b_sshr (n : Nat) (hn : n < 32) (x : Int32) {i : Nat} (hi : i < 32) : bt (x >>> (nI n &&& 31)) i = if n + i < 32 then bt x (n + i) else bt x 31 := by
  unfold bt
  rw [Int32.toBitVec_shiftRight]
  show (x.toBitVec.sshiftRight ((nI n &&& 31).toBitVec.smod 32).toNat).getLsbD i = _
  rw [s_l n hn, BitVec.getLsbD_sshiftRight, BitVec.msb_eq_getLsbD_last]
  simp [hi]
theorem nx_and (a b : Nat) : nI a &&& nI b = nI (a &&& b) := by
  apply Int32.toBitVec_inj.1
  show BitVec.ofNat 32 a &&& BitVec.ofNat 32 b = BitVec.ofNat 32 (a &&& b)
  apply BitVec.eq_of_getLsbD_eq
  intro i hi
  simp [hi]
theorem nx_xor (a b : Nat) : nI a ^^^ nI b = nI (a ^^^ b) := by
  apply Int32.toBitVec_inj.1
  show BitVec.ofNat 32 a ^^^ BitVec.ofNat 32 b = BitVec.ofNat 32 (a ^^^ b)
  apply BitVec.eq_of_getLsbD_eq
  intro i hi
  simp [hi]

theorem b_nI (n : Nat) {i : Nat} (hi : i < 32) : bt (nI n) i = n.testBit i := by
  show (BitVec.ofNat 32 n).getLsbD i = _
  rw [BitVec.getLsbD_ofNat]; simp [hi]
theorem b_1 (i : Nat) : bt 1 i = decide (i = 0) := by
  rcases Nat.lt_or_ge i 32 with h | h
  · exact (by decide +kernel : ∀ i, i < 32 → bt 1 i = decide (i = 0)) i h
  · rw [b_big h, decide_eq_false (by omega)]
theorem b_low : ∀ n, n < 32 → ∀ i, i < 32 → bt (((1 : Int32) <<< (nI n &&& 31)) - 1) i = decide (i < n) := by decide +kernel
theorem b_one : ∀ n, n < 32 → ∀ i, i < 32 → bt ((1 : Int32) <<< (nI n &&& 31)) i = decide (i = n) := by decide +kernel
theorem b_inv (x : Int32) {i : Nat} (hi : i < 32) : bt (x ^^^ (-1 : Int32)) i = !(bt x i) := by rw [b_xor, b_m1 i hi]; simp
theorem b_bool {b : Int32} (hb : b = 0 ∨ b = 1) (i : Nat) : bt b i = (decide (i = 0) && decide (b = 1)) := by
  rcases hb with rfl | rfl
  · rw [b_0]; simp
  · rw [b_1]; simp
theorem b_shl1 (x : Int32) {i : Nat} (hi : i < 32) : bt (x <<< ((1 : Int32) &&& 31)) i = (decide (1 ≤ i) && bt x (i - 1)) := b_shl 1 (by omega) x hi
theorem b_shr1 (x : Int32) {i : Nat} (hi : i < 32) : bt (x >>> ((1 : Int32) &&& 31)) i = if 1 + i < 32 then bt x (1 + i) else bt x 31 := b_sshr 1 (by omega) x hi
def wbi (x b : Int32) (s : Int32) : Int32 := ((x &&& (((1 : Int32) <<< (s &&& 31)) - 1)) ||| (b <<< (s &&& 31))) ||| ((x &&& ((((1 : Int32) <<< (s &&& 31)) - 1) ^^^ (-1 : Int32))) <<< ((1 : Int32) &&& 31))
def wbd (x s : Int32) : Int32 := (x &&& (((1 : Int32) <<< (s &&& 31)) - 1)) ||| ((x >>> ((1 : Int32) &&& 31)) &&& ((((1 : Int32) <<< (s &&& 31)) - 1) ^^^ (-1 : Int32)))
theorem wbi_bt {x b : Int32} {n i : Nat} (hn : n < 32) (hb : b = 0 ∨ b = 1) (hi : i < 32) : bt (wbi x b (nI n)) i = if i < n then bt x i else if i = n then decide (b = 1) else bt x (i - 1) := by
  unfold wbi
  rw [b_or, b_or, b_and, b_low n hn i hi, b_shl n hn b hi, b_shl1 _ hi, b_and, b_inv _ (by omega : i - 1 < 32), b_low n hn (i - 1) (by omega), b_bool hb]
  rcases Nat.lt_trichotomy i n with h | h | h
  · rw [if_pos h, decide_eq_true h, decide_eq_false (by omega : ¬ n ≤ i), decide_eq_true (by omega : i - 1 < n)]
    simp
  · subst h
    rw [if_neg (by omega), if_pos rfl, decide_eq_false (by omega : ¬ i < i), decide_eq_true (by omega : i ≤ i), decide_eq_true (by omega : i - i = 0)]
    rcases Nat.eq_zero_or_pos i with z | z
    · subst z; simp
    · rw [decide_eq_true (by omega : i - 1 < i)]; simp
  · rw [if_neg (by omega), if_neg (by omega), decide_eq_false (by omega : ¬ i < n), decide_eq_true (by omega : n ≤ i), decide_eq_false (by omega : ¬ i - n = 0), decide_eq_true (by omega : 1 ≤ i), decide_eq_false (by omega : ¬ i - 1 < n)]
    simp
theorem wbd_bt {x : Int32} {n i : Nat} (hn : n < 32) (hx : bt x 31 = false) (hi : i < 32) : bt (wbd x (nI n)) i = if i < n then bt x i else bt x (i + 1) := by
  unfold wbd
  rw [b_or, b_and, b_low n hn i hi, b_and, b_shr1 _ hi, b_inv _ hi, b_low n hn i hi]
  by_cases h : i < n
  · simp [h]
  · rw [if_neg h]
    by_cases h2 : 1 + i < 32
    · rw [if_pos h2]; simp [h, Nat.add_comm]
    · rw [if_neg h2, hx, b_big (by omega : 32 ≤ i + 1), decide_eq_false h]; simp
abbrev Rl : Type := Nat × Nat × Nat × Nat × Nat
abbrev Pl : Type := Nat × List Rl
def fld (r : Rl) (c : Nat) : Nat := match c with
  | 0 => r.1
  | 1 => r.2.1
  | 2 => r.2.2.1
  | 3 => r.2.2.2.1
  | _ => r.2.2.2.2
def rb (r : Rl) (j : Nat) : Bool := if j < 8 then r.2.1.testBit j else if j < 12 then r.2.2.1.testBit (j - 8) else if j < 20 then r.2.2.2.1.testBit (j - 12) else if j < 24 then r.2.2.2.2.testBit (j - 20) else decide (r.1 = 1)
def okR (r : Rl) : Prop := r.1 < 2 ∧ r.2.1 < 256 ∧ r.2.2.1 < 16 ∧ r.2.2.2.1 < 256 ∧ r.2.2.2.2 < 16
def okP (P : Pl) : Prop := P.1 < 5 ∧ P.2.length ≤ 8 ∧ ∀ (i : Nat) (r : Rl), P.2[i]? = some r → okR r
def lb (L : List Rl) (j i : Nat) : Bool := match L[i]? with
  | some r => rb r j
  | none => false
def CP (R : Nat → Int32) (cn ca : Int32) (P : Pl) : Prop := cn = nI P.2.length ∧ ca = nI P.1 ∧ ∀ j, j < 25 → ∀ i, i < 32 → bt (R j) i = lb P.2 j i
def MP (f : Nat → Int32) (P : Pl) : Prop := f 0 = nI P.2.length ∧ f 1 = nI P.1 ∧ ∀ (i : Nat) (r : Rl), P.2[i]? = some r → ∀ c, c < 5 → f (2 + 5 * i + c) = nI (fld r c)
def allR (e : Nat) : Rl := (e, 255, 15, 255, 15)
theorem rb_all : ∀ e, e < 2 → ∀ j, j < 25 → rb (allR e) j = (decide (j < 24) || decide (e = 1)) := by decide +kernel
theorem lb_none {L : List Rl} {j i : Nat} (h : L.length ≤ i) : lb L j i = false := by unfold lb; rw [List.getElem?_eq_none h]
theorem CP.hi {R : Nat → Int32} {cn ca : Int32} {P : Pl} (h : CP R cn ca P) (hl : P.2.length ≤ 8) {j i : Nat} (hj : j < 25) (h8 : 8 ≤ i) : bt (R j) i = false := by
  rcases Nat.lt_or_ge i 32 with q | q
  · rw [h.2.2 j hj i q, lb_none (by omega)]
  · exact b_big q
theorem CP.ins {R R' : Nat → Int32} {cn ca cn' : Int32} {P : Pl} {n e : Nat} (h : CP R cn ca P) (hl : P.2.length ≤ 8) (hn : n ≤ P.2.length) (he : e < 2) (hc : cn' = nI (P.2.length + 1)) (hR : ∀ j, j < 25 → ∃ b : Int32, (b = 0 ∨ b = 1) ∧ decide (b = 1) = (decide (j < 24) || decide (e = 1)) ∧ R' j = wbi (R j) b (nI n)) : CP R' cn' ca (P.1, P.2.insertIdx n (allR e)) := by
  refine ⟨by rw [hc, List.length_insertIdx_of_le_length hn], h.2.1, fun j hj i hi => ?_⟩
  obtain ⟨b, hb, hd, hr⟩ := hR j hj
  rw [hr, wbi_bt (by omega) hb hi]
  unfold lb
  rw [List.getElem?_insertIdx]
  by_cases h1 : i < n
  · rw [if_pos h1, if_pos h1, h.2.2 j hj i hi]; rfl
  · rw [if_neg h1, if_neg h1]
    by_cases h2 : i = n
    · rw [if_pos h2, if_pos h2, if_pos (by omega)]
      exact hd.trans (rb_all e he j hj).symm
    · rw [if_neg h2, if_neg h2, h.2.2 j hj (i - 1) (by omega)]; rfl
theorem CP.drop {R R' : Nat → Int32} {cn ca cn' : Int32} {P : Pl} {n : Nat} (h : CP R cn ca P) (hl : P.2.length ≤ 8) (hn : n < P.2.length) (hc : cn' = nI (P.2.length - 1)) (hR : ∀ j, j < 25 → R' j = wbd (R j) (nI n)) : CP R' cn' ca (P.1, P.2.eraseIdx n) := by
  refine ⟨by rw [hc, List.length_eraseIdx_of_lt hn], h.2.1, fun j hj i hi => ?_⟩
  rw [hR j hj, wbd_bt (by omega) (h.hi hl hj (by omega)) hi]
  unfold lb
  rw [List.getElem?_eraseIdx]
  by_cases h1 : i < n
  · rw [if_pos h1, if_pos h1, h.2.2 j hj i hi]; rfl
  · rw [if_neg h1, if_neg h1]
    rcases Nat.lt_or_ge (i + 1) 32 with q | q
    · rw [h.2.2 j hj (i + 1) q]; rfl
    · rw [b_big q, List.getElem?_eq_none (by omega)]
theorem CP.move {R R' : Nat → Int32} {cn ca : Int32} {P : Pl} {n t : Nat} {r : Rl} (h : CP R cn ca P) (hl : P.2.length ≤ 8) (hr : P.2[n]? = some r) (ht : t < P.2.length) (hR : ∀ j, j < 25 → R' j = wbi (wbd (R j) (nI n)) ((R j >>> (nI n &&& 31)) &&& 1) (nI t)) : CP R' cn ca (P.1, (P.2.eraseIdx n).insertIdx t r) := by
  have hn : n < P.2.length := (List.getElem?_eq_some_iff.mp hr).1
  have hle : (P.2.eraseIdx n).length = P.2.length - 1 := List.length_eraseIdx_of_lt hn
  refine ⟨by rw [h.1, List.length_insertIdx_of_le_length (by omega), hle, show P.2.length - 1 + 1 = P.2.length by omega], h.2.1, fun j hj i hi => ?_⟩
  have hbit : (R j >>> (nI n &&& 31)) &&& 1 = 0 ∨ (R j >>> (nI n &&& 31)) &&& 1 = 1 := by
    obtain ⟨q, hq, e⟩ := pk_andE (R j >>> (nI n &&& 31)) (m := 1) 1 (by decide)
    rcases (show q = 0 ∨ q = 1 by omega) with z | z <;> subst z <;> rw [e]
    · exact Or.inl rfl
    · exact Or.inr rfl
  have hbv : decide ((R j >>> (nI n &&& 31)) &&& 1 = 1) = rb r j := by
    have e0 : bt ((R j >>> (nI n &&& 31)) &&& 1) 0 = rb r j := by
      rw [b_and, b_1, b_sshr n (by omega) _ (by omega), if_pos (by omega)]
      have := h.2.2 j hj n (by omega)
      unfold lb at this
      rw [hr] at this
      simp [this]
    rw [← e0, b_bool hbit]; simp
  rw [hR j hj, wbi_bt (by omega) hbit hi, hbv]
  have hd : ∀ i, i < 32 → bt (wbd (R j) (nI n)) i = lb (P.2.eraseIdx n) j i := fun i hi => (CP.drop (cn' := nI (P.2.length - 1)) h hl hn rfl (R' := fun j => wbd (R j) (nI n)) (fun _ _ => rfl)).2.2 j hj i hi
  have hx : lb ((P.2.eraseIdx n).insertIdx t r) j i = if i < t then lb (P.2.eraseIdx n) j i else if i = t then rb r j else lb (P.2.eraseIdx n) j (i - 1) := by
    unfold lb
    rw [List.getElem?_insertIdx]
    by_cases h1 : i < t
    · rw [if_pos h1, if_pos h1]
    · rw [if_neg h1, if_neg h1]
      by_cases h2 : i = t
      · rw [if_pos h2, if_pos h2, if_pos (by omega)]
      · rw [if_neg h2, if_neg h2]
  rw [hx, hd i hi, hd (i - 1) (by omega)]
