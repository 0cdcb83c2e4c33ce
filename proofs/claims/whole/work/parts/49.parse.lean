/-! what a text says, by itself -/
def mt (T : List Nat) : List Nat → Nat → Bool
  | [], _ => true
  | c :: w, i => decide (T[i]? = some c) && mt T w (i + 1)
theorem mt_len {T : List Nat} : ∀ (w : List Nat) (i : Nat), i ≤ T.length → mt T w i = true → i + w.length ≤ T.length := by
  intro w
  induction w with
  | nil => intro i hi _; exact hi
  | cons c w ih =>
    intro i hi h
    have h : (decide (T[i]? = some c) && mt T w (i + 1)) = true := h
    rw [Bool.and_eq_true] at h
    have h1 := (List.getElem?_eq_some_iff.mp (of_decide_eq_true h.1)).1
    have := ih (i + 1) (by omega) h.2
    rw [List.length_cons]; omega
def wSx : List (List Nat) := [[], [111, 108, 100], [110, 101, 119], [117, 115, 101], [102, 105, 114, 115, 116], [100, 101, 110, 121, 111, 118, 101, 114], [112, 101, 114, 109, 105, 116, 111, 118, 101, 114], [111, 110, 108, 121, 111, 110, 101], [109, 97, 106, 111, 114, 105, 116, 121], [112, 101, 114, 109, 105, 116], [58], [115, 97, 114, 108], [100, 101, 110, 121], [59]]
theorem wSx_ok : ∀ k, k < 14 → 0 < k → lenSx.getD k 0 = (wSx.getD k []).length ∧ (wSx.getD k []).length ≤ 10 ∧ ∀ j, j < (wSx.getD k []).length → chSx k j = nI ((wSx.getD k []).getD j 0) ∧ (wSx.getD k []).getD j 0 < 127 := by decide +kernel
def okT (T : List Nat) : Prop := T.length ≤ 240 ∧ ∀ (j c : Nat), T[j]? = some c → 32 ≤ c ∧ c ≤ 126
def Tx (st : St) (T : List Nat) (i : Nat) : Prop := okT T ∧ st 5 4 = nI T.length ∧ (∀ (j c : Nat), T[j]? = some c → st 6 j = nI c) ∧ st 5 5 = nI i ∧ i ≤ T.length
theorem up2_up2 (st : St) (k j : Nat) (v w : Int32) : up2 (up2 st k j v) k j w = up2 st k j w := by
  funext a b
  rw [up2_at, up2_at, up2_at, up2_at]
  by_cases h : a = k
  · rw [if_pos h, if_pos h]
    by_cases g : b = j
    · rw [if_pos g, if_pos g]
    · rw [if_neg g, if_neg g, if_pos rfl, if_neg g]
  · rw [if_neg h, if_neg h, if_neg h]
theorem up2_id (st : St) (k j : Nat) (v : Int32) (h : st k j = v) : up2 st k j v = st := by
  funext a b
  rw [up2_at]
  by_cases g : a = k
  · rw [if_pos g]
    by_cases g2 : b = j
    · rw [if_pos g2, g, g2, h]
    · rw [if_neg g2, g]
  · rw [if_neg g]
theorem Tx.mv {st : St} {T : List Nat} {i i' : Nat} (h : Tx st T i) (hi : i' ≤ T.length) : Tx (up2 st 5 5 (nI i')) T i' := by
  obtain ⟨h1, h2, h3, h4, h5⟩ := h
  refine ⟨h1, ?_, fun j c hj => ?_, ?_, hi⟩
  · rw [up2_at, if_pos rfl, if_neg (by decide)]; exact h2
  · rw [up2_at, if_neg (by decide)]; exact h3 j c hj
  · rw [up2_at, if_pos rfl, if_pos rfl]
theorem s_accept {k i : Nat} {T : List Nat} {st : St} {Q : Int32 → St → Prop} (hk : k < 14) (hk0 : 0 < k) (hT : Tx st T i) (h1 : mt T (wSx.getD k []) i = true → Q 1 (up2 st 5 5 (nI (i + (wSx.getD k []).length)))) (h0 : mt T (wSx.getD k []) i = false → Q 0 st) : wp_X2_accept k st Q := by
  obtain ⟨hl, hL, hc⟩ := wSx_ok k hk hk0
  obtain ⟨⟨hn, hb⟩, e4, e6, e5, hi⟩ := hT
  generalize wSx.getD k [] = w at *
  intro P20 h20
  have main : i + w.length ≤ T.length → ∀ (w2 : List Nat) (j : Nat), j + w2.length = w.length → (∀ a, a < w2.length → w.getD (j + a) 0 = w2.getD a 0) → mt T w2 (i + j) = mt T w i → P20 (nI j) st := by
    intro hle w2
    induction w2 with
    | nil =>
      intro j hj _ hm
      have hj : j = w.length := hj
      subst hj
      refine h20 _ _ ⟨fun _ => ?_, fun c => absurd ?_ c⟩
      · show Q 1 (up2 st 5 5 (st 5 5 + nI (lenSx.getD k 0)))
        rw [e5, hl, nI_add]
        exact h1 hm.symm
      · show nI (lenSx.getD k 0) ≤ _
        rw [hl]; exact nI_le (Nat.le_refl _) (by omega)
    | cons c w2 ih =>
      intro j hj ha hm
      rw [List.length_cons] at hj
      obtain ⟨d, hd⟩ : ∃ d, T[i + j]? = some d := ⟨T[i + j]'(by omega), List.getElem?_eq_getElem (by omega)⟩
      have hm : (decide (T[i + j]? = some c) && mt T w2 (i + j + 1)) = mt T w i := hm
      have hc2 := hc j (by omega)
      have ea := ha 0 (by rw [List.length_cons]; omega)
      have ea : w.getD j 0 = c := ea
      rw [ea] at hc2
      have hdd := hb _ _ hd
      refine h20 _ _ ⟨fun q => absurd q ?_, fun _ => ⟨?_, ?_, ?_⟩⟩
      · show ¬ nI (lenSx.getD k 0) ≤ _
        rw [hl]; exact nI_ge (by omega) (by omega)
      · show vp_in (st 5 5 + nI j) 240
        rw [e5, nI_add]; exact vp_in_nI (by omega) (by omega)
      · rw [hl]; exact vp_in_nI (by omega) (by omega)
      · show (st 6 (st 5 5 + nI j).toNatClampNeg = chSx k (nI j).toNatClampNeg → _) ∧ (¬ st 6 (st 5 5 + nI j).toNatClampNeg = chSx k (nI j).toNatClampNeg → _)
        rw [e5, nI_add, nI_clamp (by omega), nI_clamp (by omega), e6 _ _ hd, hc2.1]
        refine pk_eq d c (fun q x hx => ?_) (fun q => h0 ?_)
        · rw [hx, a1]
          refine ih (j + 1) (by omega) (fun a hq => ?_) ?_
          · have := ha (a + 1) (by rw [List.length_cons]; omega)
            rw [show j + 1 + a = j + (a + 1) by omega, this]; rfl
          · rw [← hm, hd, q, decide_eq_true rfl, Bool.true_and]; rfl
        · rw [← hm, hd, decide_eq_false (fun z => q (Option.some.inj z)), Bool.false_and]
  show (nI (lenSx.getD k 0) ≤ st 5 4 - st 5 5 → _) ∧ (¬ nI (lenSx.getD k 0) ≤ st 5 4 - st 5 5 → _)
  rw [hl, e4, e5, pk_sub hi]
  refine pk_le w.length (T.length - i) (fun q => main (by omega) w 0 (by omega) (fun a _ => by rw [Nat.zero_add]) rfl) (fun q => h0 ?_)
  rcases hq : mt T w i with _ | _
  · rfl
  · have := mt_len w i hi hq; omega
theorem s_accC {c i : Nat} {T : List Nat} {st : St} {Q : Int32 → St → Prop} (hc : c < 2 ^ 31) (hT : Tx st T i) (h1 : T[i]? = some c → Q 1 (up2 st 5 5 (nI (i + 1)))) (h0 : T[i]? ≠ some c → Q 0 st) : wp_X2_acceptCharacter (nI c) st Q := by
  obtain ⟨⟨hn, hb⟩, e4, e6, e5, hi⟩ := hT
  unfold wp_X2_acceptCharacter
  rw [e4, e5]
  refine pk_le T.length i (fun q => h0 (by rw [List.getElem?_eq_none q]; exact fun z => nomatch z)) (fun q => ⟨vp_in_nI (by omega) (by omega), ?_⟩)
  obtain ⟨d, hd⟩ : ∃ d, T[i]? = some d := ⟨T[i], List.getElem?_eq_getElem q⟩
  have hdd := hb _ _ hd
  rw [nI_clamp (by omega), e6 _ _ hd, a1]
  exact pk_eq d c (fun z => h1 (by rw [hd, z])) (fun z => h0 (by rw [hd]; exact fun y => z (Option.some.inj y)))
def atN (c : Nat) : Option Nat := if c = 115 then some 0 else if c = 97 then some 1 else if c = 114 then some 2 else if c = 108 then some 3 else none
def atT (T : List Nat) (i : Nat) : Option Nat := T[i]?.bind atN
theorem atN_w : ∀ a, a < 4 → atN ((wSx.getD 11 []).getD a 0) = some a := by decide
theorem atT_none {T : List Nat} {i : Nat} (h : ∀ b, b < 4 → T[i]? ≠ some ((wSx.getD 11 []).getD b 0)) : atT T i = none := by
  unfold atT
  rcases hc : T[i]? with _ | c
  · rfl
  · rw [hc] at h
    show atN c = none
    unfold atN
    rw [if_neg (show ¬ c = 115 from fun z => h 0 (by omega) (congrArg some z)), if_neg (show ¬ c = 97 from fun z => h 1 (by omega) (congrArg some z)), if_neg (show ¬ c = 114 from fun z => h 2 (by omega) (congrArg some z)), if_neg (show ¬ c = 108 from fun z => h 3 (by omega) (congrArg some z))]
theorem atT_lt {T : List Nat} {i a : Nat} (h : atT T i = some a) : a < 4 ∧ i < T.length := by
  unfold atT at h
  rcases hc : T[i]? with _ | c
  · rw [hc] at h; exact nomatch h
  · rw [hc] at h
    have h : atN c = some a := h
    refine ⟨?_, (List.getElem?_eq_some_iff.mp hc).1⟩
    unfold atN at h
    split at h
    · have := Option.some.inj h; omega
    · split at h
      · have := Option.some.inj h; omega
      · split at h
        · have := Option.some.inj h; omega
        · split at h
          · have := Option.some.inj h; omega
          · exact nomatch h
theorem s_readAttr {i : Nat} {T : List Nat} {st : St} {Q : Int32 → St → Prop} (hT : Tx st T i) (h1 : ∀ a, a < 4 → atT T i = some a → Q (nI a) (up2 st 5 5 (nI (i + 1)))) (h0 : atT T i = none → Q (-4) st) : wp_X2_readAttribute st Q := by
  intro P2 h2
  have key : ∀ d a, a + d = 4 → (∀ b, b < a → T[i]? ≠ some ((wSx.getD 11 []).getD b 0)) → P2 (nI a) st := by
    intro d
    induction d with
    | zero =>
      intro a ha h
      have : a = 4 := by omega
      subst this
      exact h2 _ _ ⟨fun _ => h0 (atT_none h), fun c => absurd (by decide) c⟩
    | succ d ih =>
      intro a ha h
      obtain ⟨_, _, hc⟩ := wSx_ok 11 (by decide) (by decide)
      have hc := hc a (show a < 4 by omega)
      refine h2 _ _ ⟨fun c => absurd c (nI_ge (a := a) (b := 4) (by omega) (by omega)), fun _ => ⟨vp_in_nI (show a < 4 by omega) (by decide), ?_⟩⟩
      rw [nI_clamp (by omega), hc.1]
      refine s_accC (by omega) hT (fun e => g1 (h1 a (by omega) ?_)) (fun e => g0 (fun x hx => ?_))
      · unfold atT; rw [e]; exact atN_w a (by omega)
      · rw [hx, a1]
        refine ih (a + 1) (by omega) (fun b hb => ?_)
        rcases (show b < a ∨ b = a by omega) with q | q
        · exact h b q
        · rw [q]; exact e
  exact key 4 0 (by omega) (fun b hb => absurd hb (by omega))
def valN (T : List Nat) (n : Nat) : Nat → Nat → Nat → Nat × Nat
  | 0, i, m => (i, m)
  | f + 1, i, m => match T[i]? with
    | none => (i, m)
    | some c => if 48 ≤ c ∧ c < 48 + n ∧ m.testBit (c - 48) = false then valN T n f (i + 1) (m ||| 2 ^ (c - 48)) else (i, m)
theorem valN_none {T : List Nat} {n f i m : Nat} (h : T[i]? = none) : valN T n (f + 1) i m = (i, m) := by
  show (match T[i]? with | none => (i, m) | some c => if 48 ≤ c ∧ c < 48 + n ∧ m.testBit (c - 48) = false then valN T n f (i + 1) (m ||| 2 ^ (c - 48)) else (i, m)) = _
  rw [h]
theorem valN_some {T : List Nat} {n f i m c : Nat} (h : T[i]? = some c) : valN T n (f + 1) i m = if 48 ≤ c ∧ c < 48 + n ∧ m.testBit (c - 48) = false then valN T n f (i + 1) (m ||| 2 ^ (c - 48)) else (i, m) := by
  show (match T[i]? with | none => (i, m) | some c => if 48 ≤ c ∧ c < 48 + n ∧ m.testBit (c - 48) = false then valN T n f (i + 1) (m ||| 2 ^ (c - 48)) else (i, m)) = _
  rw [h]
theorem valN_b {T : List Nat} {n : Nat} : ∀ (f i m : Nat), i ≤ T.length → m < 2 ^ n → (i ≤ (valN T n f i m).1 ∧ (valN T n f i m).1 ≤ T.length) ∧ (valN T n f i m).2 < 2 ^ n := by
  intro f
  induction f with
  | zero => intro i m hi hm; exact ⟨⟨Nat.le_refl _, hi⟩, hm⟩
  | succ f ih =>
    intro i m hi hm
    rcases hc : T[i]? with _ | c
    · rw [valN_none hc]; exact ⟨⟨Nat.le_refl _, hi⟩, hm⟩
    · rw [valN_some hc]
      have hl := (List.getElem?_eq_some_iff.mp hc).1
      by_cases q : 48 ≤ c ∧ c < 48 + n ∧ m.testBit (c - 48) = false
      · rw [if_pos q]
        have := ih (i + 1) (m ||| 2 ^ (c - 48)) (by omega) (Nat.or_lt_two_pow hm (Nat.pow_lt_pow_right (by omega) (by omega)))
        exact ⟨⟨by omega, this.1.2⟩, this.2⟩
      · rw [if_neg q]; exact ⟨⟨Nat.le_refl _, hi⟩, hm⟩
theorem or_nI : ∀ m, m < 256 → ∀ v, v < 8 → nI m ||| ((1 : Int32) <<< (nI v &&& (31 : Int32))) = nI (m ||| 2 ^ v) := by decide +kernel
theorem s_readVals {n i : Nat} {T : List Nat} {st : St} {Q : Int32 → St → Prop} (hn : n ≤ 8) (hT : Tx st T i) (h : Q (nI (valN T n n i 0).2) (up2 st 5 5 (nI (valN T n n i 0).1))) : wp_X2_readValues (nI n) st Q := by
  intro P4 h4
  have hp : 2 ^ n ≤ 256 := Nat.pow_le_pow_right (n := 2) (j := 8) (by omega) hn
  have key : ∀ f k i m, k + f = n → m < 2 ^ n → Tx (up2 st 5 5 (nI i)) T i → Q (nI (valN T n f i m).2) (up2 st 5 5 (nI (valN T n f i m).1)) → P4 (nI m) (nI k) (up2 st 5 5 (nI i)) := by
    intro f
    induction f with
    | zero =>
      intro k i m hk hm _ h
      exact h4 _ _ _ ⟨fun _ => h, fun c => absurd (nI_le (by omega) (by omega)) c⟩
    | succ f ih =>
      intro k i m hk hm hT h
      obtain ⟨⟨hn2, hb⟩, e4, e6, e5, hi⟩ := id hT
      refine h4 _ _ _ ⟨fun c => absurd c (nI_ge (by omega) (by omega)), fun _ => ?_⟩
      rw [e4, e5]
      refine pk_le T.length i (fun q => ?_) (fun q => ⟨vp_in_nI (by omega) (by omega), fun x hx => ?_⟩)
      · rw [valN_none (List.getElem?_eq_none q)] at h; exact h
      · obtain ⟨c, hc⟩ : ∃ d, T[i]? = some d := ⟨T[i], List.getElem?_eq_getElem q⟩
        have hcc := hb _ _ hc
        rw [valN_some hc] at h
        rw [nI_clamp (by omega), e6 _ _ hc] at hx
        by_cases q1 : 48 ≤ c
        · have hx : x = nI (c - 48) := by rw [hx]; exact pk_sub (b := 48) q1
          subst hx
          refine ⟨fun z => absurd z (nI_pos (by omega)), fun _ => pk_le n (c - 48) (fun q2 => ?_) (fun q2 => ?_)⟩
          · rw [if_neg (by omega)] at h; exact h
          · rw [shrand m (by omega : c - 48 < 32), a1]
            refine pk_eq (m.testBit (c - 48)).toNat 0 (fun q3 y hy z hz => ?_) (fun q3 => ?_) rfl rfl (by have := bl (m.testBit (c - 48)); omega)
            · have q3 : m.testBit (c - 48) = false := by
                rcases w : m.testBit (c - 48) with _ | _
                · rfl
                · rw [w] at q3; exact absurd q3 (by decide)
              rw [if_pos ⟨q1, by omega, q3⟩] at h
              rw [hy, hz, a1, or_nI m (by omega) (c - 48) (by omega), up2_up2]
              refine ih (k + 1) (i + 1) _ (by omega) (Nat.or_lt_two_pow hm (Nat.pow_lt_pow_right (by omega) (by omega))) ?_ h
              have := hT.mv (i' := i + 1) (by omega)
              rwa [up2_up2] at this
            · rw [if_neg (fun z => q3 (by rw [z.2.2]; rfl))] at h; exact h
        · rw [if_neg (fun z => q1 z.1)] at h
          refine ⟨fun _ => h, fun z => absurd ?_ z⟩
          rw [hx]; exact pk_sneg (b := 48) (by omega) (by omega)
  have e := up2_id st 5 5 _ hT.2.2.2.1
  have := key n 0 i 0 (by omega) (Nat.two_pow_pos n) (by rw [e]; exact hT) h
  rwa [e] at this
