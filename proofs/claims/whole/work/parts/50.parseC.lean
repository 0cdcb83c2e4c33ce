def conN (T : List Nat) : Nat → Nat → Nat → Rl → Option (Nat × Rl)
  | 0, i, _, r => if T[i]? = some 58 then none else some (i, r)
  | f + 1, i, u, r => if T[i]? = some 58 then (match atT T (i + 1) with
      | none => none
      | some a => if u.testBit a then none else if (valN T (vcN a) (vcN a) (i + 2) 0).2 = 0 then none else conN T f (valN T (vcN a) (vcN a) (i + 2) 0).1 (u ||| 2 ^ a) (setm r a (valN T (vcN a) (vcN a) (i + 2) 0).2)) else some (i, r)
theorem conN_no {T : List Nat} {f i u : Nat} {r : Rl} (h : T[i]? ≠ some 58) : conN T f i u r = some (i, r) := by
  cases f with
  | zero => exact if_neg h
  | succ f => exact if_neg h
theorem conN_at {T : List Nat} {f i u : Nat} {r : Rl} (h : T[i]? = some 58) (h2 : atT T (i + 1) = none) : conN T (f + 1) i u r = none := by
  show (if T[i]? = some 58 then (match atT T (i + 1) with
      | none => none
      | some a => if u.testBit a then none else if (valN T (vcN a) (vcN a) (i + 2) 0).2 = 0 then none else conN T f (valN T (vcN a) (vcN a) (i + 2) 0).1 (u ||| 2 ^ a) (setm r a (valN T (vcN a) (vcN a) (i + 2) 0).2)) else some (i, r)) = _
  rw [if_pos h, h2]
theorem conN_go {T : List Nat} {f i u a : Nat} {r : Rl} (h : T[i]? = some 58) (h2 : atT T (i + 1) = some a) : conN T (f + 1) i u r = if u.testBit a then none else if (valN T (vcN a) (vcN a) (i + 2) 0).2 = 0 then none else conN T f (valN T (vcN a) (vcN a) (i + 2) 0).1 (u ||| 2 ^ a) (setm r a (valN T (vcN a) (vcN a) (i + 2) 0).2) := by
  show (if T[i]? = some 58 then (match atT T (i + 1) with
      | none => none
      | some a => if u.testBit a then none else if (valN T (vcN a) (vcN a) (i + 2) 0).2 = 0 then none else conN T f (valN T (vcN a) (vcN a) (i + 2) 0).1 (u ||| 2 ^ a) (setm r a (valN T (vcN a) (vcN a) (i + 2) 0).2)) else some (i, r)) = _
  rw [if_pos h, h2]
def setD (D : Nat → Pl) (p : Nat) (P : Pl) : Nat → Pl := fun q => if q = p then P else D q
theorem setD_at (D : Nat → Pl) (p : Nat) (P : Pl) : setD D p P p = P := if_pos rfl
theorem setD_ne (D : Nat → Pl) {p q : Nat} (P : Pl) (h : q ≠ p) : setD D p P q = D q := if_neg h
theorem setD_setD (D : Nat → Pl) (p : Nat) (P R : Pl) : setD (setD D p P) p R = setD D p R := by
  funext q
  unfold setD
  by_cases h : q = p
  · rw [if_pos h, if_pos h]
  · rw [if_neg h, if_neg h, if_neg h]
def okD (D : Nat → Pl) : Prop := ∀ q, q < 2 → okP (D q)
theorem okD.set {D : Nat → Pl} {p : Nat} {P : Pl} (h : okD D) (hP : okP P) : okD (setD D p P) := by
  intro q hq
  unfold setD
  by_cases e : q = p
  · rw [if_pos e]; exact hP
  · rw [if_neg e]; exact h q hq
def ruN (T : List Nat) (e i p : Nat) (D : Nat → Pl) : Option (Nat × Nat × (Nat → Pl)) := if (D p).2.length < 8 then (match conN T 4 i 0 (allR e) with
  | none => none
  | some x => some (x.1, p, setD D p ((D p).1, (D p).2 ++ [x.2]))) else none
theorem ruN_none {T : List Nat} {e i p : Nat} {D : Nat → Pl} (h : conN T 4 i 0 (allR e) = none) : ruN T e i p D = none := by
  unfold ruN
  rw [h]
  split <;> rfl
theorem ruN_full {T : List Nat} {e i p : Nat} {D : Nat → Pl} (h : ¬ (D p).2.length < 8) : ruN T e i p D = none := if_neg h
theorem ruN_some {T : List Nat} {e i p : Nat} {D : Nat → Pl} {x : Nat × Rl} (hl : (D p).2.length < 8) (h : conN T 4 i 0 (allR e) = some x) : ruN T e i p D = some (x.1, p, setD D p ((D p).1, (D p).2 ++ [x.2])) := by
  unfold ruN
  rw [if_pos hl, h]
def alN (T : List Nat) (i : Nat) : Option (Nat × Nat) := if mt T (wSx.getD 4 []) i then some (i + 5, 0) else if mt T (wSx.getD 5 []) i then some (i + 8, 1) else if mt T (wSx.getD 6 []) i then some (i + 10, 2) else if mt T (wSx.getD 7 []) i then some (i + 7, 3) else if mt T (wSx.getD 8 []) i then some (i + 8, 4) else none
def usN (T : List Nat) (i p : Nat) (D : Nat → Pl) : Option (Nat × Nat × (Nat → Pl)) := match alN T i with
  | none => none
  | some x => some (x.1, p, setD D p (x.2, (D p).2))
def stN (T : List Nat) (i p : Nat) (D : Nat → Pl) : Option (Nat × Nat × (Nat → Pl)) := if mt T (wSx.getD 1 []) i then some (i + 3, 0, D) else if mt T (wSx.getD 2 []) i then some (i + 3, 1, D) else if mt T (wSx.getD 3 []) i then usN T (i + 3) p D else if mt T (wSx.getD 9 []) i then ruN T 0 (i + 6) p D else if mt T (wSx.getD 12 []) i then ruN T 1 (i + 4) p D else none
def topN (T : List Nat) : Nat → Nat → Nat → (Nat → Pl) → Sum Nat (Nat → Pl)
  | 0, _, _, D => .inr D
  | f + 1, i, p, D => if T.length ≤ i then Sum.inr D else (match stN T i p D with
    | none => Sum.inl i
    | some x => if T[x.1]? = some 59 then topN T f (x.1 + 1) x.2.1 x.2.2 else Sum.inl i)
theorem topN_end {T : List Nat} {f i p : Nat} {D : Nat → Pl} (h : T.length ≤ i) : topN T f i p D = .inr D := by
  cases f with
  | zero => rfl
  | succ f => exact if_pos h
theorem topN_none {T : List Nat} {f i p : Nat} {D : Nat → Pl} (h : ¬ T.length ≤ i) (h2 : stN T i p D = none) : topN T (f + 1) i p D = .inl i := by
  show (if T.length ≤ i then Sum.inr D else (match stN T i p D with
    | none => Sum.inl i
    | some x => if T[x.1]? = some 59 then topN T f (x.1 + 1) x.2.1 x.2.2 else Sum.inl i)) = _
  rw [if_neg h, h2]
theorem topN_some {T : List Nat} {f i p : Nat} {D : Nat → Pl} {x : Nat × Nat × (Nat → Pl)} (h : ¬ T.length ≤ i) (h2 : stN T i p D = some x) : topN T (f + 1) i p D = if T[x.1]? = some 59 then topN T f (x.1 + 1) x.2.1 x.2.2 else .inl i := by
  show (if T.length ≤ i then Sum.inr D else (match stN T i p D with
    | none => Sum.inl i
    | some x => if T[x.1]? = some 59 then topN T f (x.1 + 1) x.2.1 x.2.2 else Sum.inl i)) = _
  rw [if_neg h, h2]
/-! the program's reading -/
def CD (st : St) (T : List Nat) (i p : Nat) (D : Nat → Pl) : Prop := Tx st T i ∧ st 5 3 = nI p ∧ p < 2 ∧ ∀ q, q < 2 → CPs st (7 + 2 * q) (D q)
def FC (st s1 : St) : Prop := (∀ c, c ≠ 5 → c < 7 ∨ 10 < c → s1 c = st c) ∧ s1 5 4 = st 5 4
theorem FC.rf (st : St) : FC st st := ⟨fun _ _ _ => rfl, rfl⟩
theorem FC.tr {a b c : St} (h : FC a b) (g : FC b c) : FC a c := ⟨fun x h1 h2 => (g.1 x h1 h2).trans (h.1 x h1 h2), g.2.trans h.2⟩
theorem FC.mv {a b : St} {v : Int32} {j : Nat} (hj : j ≠ 4) (h : FC a b) : FC a (up2 b 5 j v) := by
  refine h.tr ⟨fun c h1 _ => ?_, ?_⟩
  · unfold up2; rw [upR_ne _ _ h1]
  · rw [up2_at, if_pos rfl, if_neg (fun z => hj z.symm)]
theorem FC.pol {a b s1 : St} {p : Nat} (hp : p < 2) (h : FC a b) (hf : fr b s1 (7 + 2 * p)) : FC a s1 := by
  refine h.tr ⟨fun c h1 h2 => hf c (by omega) (by omega), ?_⟩
  rw [hf 5 (by omega) (by omega)]
theorem CD.mv {st : St} {T : List Nat} {i i' p : Nat} {D : Nat → Pl} (h : CD st T i p D) (hi : i' ≤ T.length) : CD (up2 st 5 5 (nI i')) T i' p D := by
  obtain ⟨h1, h2, h3, h4⟩ := h
  refine ⟨h1.mv hi, ?_, h3, fun q hq => (h4 q hq).congr ?_ ?_⟩
  · rw [up2_at, if_pos rfl, if_neg (by decide)]; exact h2
  · unfold up2; rw [upR_ne _ _ (by omega)]
  · unfold up2; rw [upR_ne _ _ (by omega)]
theorem CD.sel {st : St} {T : List Nat} {i p p' : Nat} {D : Nat → Pl} (h : CD st T i p D) (hp : p' < 2) : CD (up2 st 5 3 (nI p')) T i p' D := by
  obtain ⟨h1, h2, h3, h4⟩ := h
  refine ⟨⟨h1.1, ?_, fun j c hj => ?_, ?_, h1.2.2.2.2⟩, ?_, hp, fun q hq => (h4 q hq).congr ?_ ?_⟩
  · rw [up2_at, if_pos rfl, if_neg (by decide)]; exact h1.2.1
  · rw [up2_at, if_neg (by decide)]; exact h1.2.2.1 j c hj
  · rw [up2_at, if_pos rfl, if_neg (by decide)]; exact h1.2.2.2.1
  · rw [up2_at, if_pos rfl, if_pos rfl]
  · unfold up2; rw [upR_ne _ _ (by omega)]
  · unfold up2; rw [upR_ne _ _ (by omega)]
theorem CD.pol {st s1 : St} {T : List Nat} {i p : Nat} {D : Nat → Pl} {P : Pl} (h : CD st T i p D) (hf : fr st s1 (7 + 2 * p)) (hP : CPs s1 (7 + 2 * p) P) : CD s1 T i p (setD D p P) := by
  obtain ⟨h1, h2, h3, h4⟩ := h
  have e5 : s1 5 = st 5 := hf 5 (by omega) (by omega)
  have e6 : s1 6 = st 6 := hf 6 (by omega) (by omega)
  refine ⟨⟨h1.1, by rw [e5]; exact h1.2.1, fun j c hj => by rw [e6]; exact h1.2.2.1 j c hj, by rw [e5]; exact h1.2.2.2.1, h1.2.2.2.2⟩, by rw [e5]; exact h2, h3, fun q hq => ?_⟩
  by_cases e : q = p
  · subst e; rw [setD_at]; exact hP
  · rw [setD_ne _ _ e]
    exact (h4 q hq).congr (hf _ (by omega) (by omega)) (hf _ (by omega) (by omega))
theorem CD.sl {st : St} {T : List Nat} {i p : Nat} {D : Nat → Pl} (h : CD st T i p D) : selOf (st 5 3) = 7 + 2 * p := by
  obtain ⟨_, h2, h3, _⟩ := h
  rw [h2]
  rcases (show p = 0 ∨ p = 1 by omega) with rfl | rfl
  · rfl
  · rfl
theorem mt1 {T : List Nat} {c i : Nat} : mt T [c] i = decide (T[i]? = some c) := Bool.and_true _
theorem m58 {T : List Nat} {i : Nat} : mt T (wSx.getD 10 []) i = decide (T[i]? = some 58) := mt1
theorem m59 {T : List Nat} {i : Nat} : mt T (wSx.getD 13 []) i = decide (T[i]? = some 59) := mt1
theorem tlt {T : List Nat} {i c : Nat} (h : T[i]? = some c) : i < T.length := (List.getElem?_eq_some_iff.mp h).1
theorem bn0 {b : Bool} (h : b.toNat = 0) : b = false := by
  cases b
  · rfl
  · exact absurd h (by decide)
theorem bn1 {b : Bool} (h : b.toNat ≠ 0) : b = true := by
  cases b
  · exact absurd rfl h
  · rfl
theorem C_con {st0 : St} {T : List Nat} {p a : Nat} {L : List Rl} {D : Nat → Pl} {Q : Int32 → St → Prop} {P30 : Int32 → Int32 → Int32 → St → Prop} (hL : L.length < 8)
    (h30 : ∀ (x2 : Int32) (x3 : Int32) (x4 : Int32) (st : St), (((4 : Int32) ≤ x4 → (Q (1 : Int32) st)) ∧ (¬ (4 : Int32) ≤ x4 → (wp_X2_accept 10 st (fun r_2 s_1 => (r_2 = 0 → (Q (1 : Int32) s_1)) ∧ (¬ r_2 = 0 → (wp_X2_readAttribute s_1 (fun r_4 s_3 => (r_4 < 0 → (Q (0 : Int32) s_3)) ∧ (¬ r_4 < 0 → ((((x3 >>> (r_4 &&& (31 : Int32))) &&& (1 : Int32)) = 0 → (∀ x3_5 : Int32, x3_5 = x3 ||| ((1 : Int32) <<< (r_4 &&& (31 : Int32))) → vp_in r_4 4 ∧ (wp_X2_readValues (vcF r_4.toNatClampNeg) s_3 (fun r_7 s_6 => (r_7 = 0 → (Q (0 : Int32) s_6)) ∧ (¬ r_7 = 0 → (wp_X1_restrict (selOf (s_6 5 3)) x2 r_4 r_7 s_6 (fun s_8 => ∀ x4_9 : Int32, x4_9 = x4 + (1 : Int32) → P30 x2 x3_5 x4_9 s_8))))))) ∧ (¬ ((x3 >>> (r_4 &&& (31 : Int32))) &&& (1 : Int32)) = 0 → (Q (0 : Int32) s_3))))))))))) → P30 x2 x3 x4 st) :
    ∀ (f k i u : Nat) (r : Rl) (st : St), k + f = 4 → u < 16 → okR r → CD st T i p (setD D p (a, L ++ [r])) → FC st0 st →
    (∀ j r' s1, conN T f i u r = some (j, r') → CD s1 T j p (setD D p (a, L ++ [r'])) → FC st0 s1 → okR r' → i ≤ j → Q 1 s1) →
    (conN T f i u r = none → ∀ s1, FC st0 s1 → Q 0 s1 ∧ ∀ j, Tx s1 T j → T[j]? ≠ some 59 → Q 1 s1) → P30 (nI L.length) (nI u) (nI k) st := by
  intro f
  induction f with
  | zero =>
    intro k i u r st hk hu hr hC hF hs hf
    refine h30 _ _ _ _ ⟨fun _ => ?_, fun c => absurd (nI_le (a := 4) (by omega) (by omega)) c⟩
    by_cases q : T[i]? = some 58
    · exact (hf (if_pos q) st hF).2 i hC.1 (by rw [q]; decide)
    · exact hs i r st (conN_no q) hC hF hr (Nat.le_refl _)
  | succ f ih =>
    intro k i u r st hk hu hr hC hF hs hf
    refine h30 _ _ _ _ ⟨fun c => absurd c (nI_ge (a := k) (b := 4) (by omega) (by omega)), fun _ => ?_⟩
    refine s_accept (by decide) (by decide) hC.1 (fun q => g1 ?_) (fun q => g0 ?_)
    · have q : T[i]? = some 58 := by rw [m58] at q; exact of_decide_eq_true q
      have hC1 := hC.mv (i' := i + 1) (by have := tlt q; omega)
      have hF1 := hF.mv (v := nI (i + 1)) (j := 5) (by decide)
      refine s_readAttr hC1.1 (fun x hx e => ?_) (fun e => ?_)
      · rw [conN_go q e] at hs hf
        have hlt := (atT_lt e).2
        rw [up2_up2]
        have hC2 := hC.mv (i' := i + 1 + 1) (by omega)
        have hF2 := hF.mv (v := nI (i + 1 + 1)) (j := 5) (by decide)
        refine ⟨fun z => absurd z (nI_pos (by omega)), fun _ => ?_⟩
        rw [shrand u (by omega : x < 32)]
        refine pk_eq (u.testBit x).toNat 0 (fun q3 y hy => ?_) (fun q3 => ?_) rfl rfl (by have := bl (u.testBit x); omega)
        · have q3 := bn0 q3
          rw [if_neg (by rw [q3]; decide)] at hs hf
          refine ⟨vp_in_nI (by omega) (by omega), ?_⟩
          have hv := vcN_le x hx
          rw [nI_clamp (by omega), vcF_N x hx]
          refine s_readVals hv hC2.1 ?_
          have hb := valN_b (T := T) (n := vcN x) (vcN x) (i + 1 + 1) 0 (by omega) (Nat.two_pow_pos _)
          have hp : 2 ^ vcN x ≤ 256 := Nat.pow_le_pow_right (n := 2) (j := 8) (by omega) hv
          have e2 : i + 1 + 1 = i + 2 := rfl
          rw [up2_up2]
          have hC3 := hC.mv hb.1.2
          have hF3 := hF.mv (v := nI (valN T (vcN x) (vcN x) (i + 1 + 1) 0).1) (j := 5) (by decide)
          rw [e2] at hb hC3 hF3 ⊢
          generalize valN T (vcN x) (vcN x) (i + 2) 0 = w at *
          refine pk_eq w.2 0 (fun q4 => ?_) (fun q4 => ?_)
          · rw [if_pos q4] at hf; exact (hf rfl _ hF3).1
          · rw [if_neg q4] at hs hf
            rw [hC3.sl]
            have hP := hC3.2.2.2 p hC3.2.2.1
            rw [setD_at] at hP
            refine s_restrict hP (by rw [List.length_append]; show L.length + 1 ≤ 8; omega) (by rw [List.getElem?_append_right (Nat.le_refl _), Nat.sub_self]; rfl) hx (by omega) (fun s8 hf8 hP8 z hz => ?_)
            rw [hz, hy, a1, or_nI u (by omega) x (by omega)]
            rw [show ((a, L ++ [r]) : Pl).2.set L.length (setm r x w.2) = L ++ [setm r x w.2] by rw [show ((a, L ++ [r]) : Pl).2 = L ++ [r] from rfl, List.set_append_right _ _ (Nat.le_refl _), Nat.sub_self]; rfl] at hP8
            have hC8 := hC3.pol hf8 hP8
            rw [setD_setD] at hC8
            refine ih (k + 1) w.1 (u ||| 2 ^ x) _ s8 (by omega) (Nat.or_lt_two_pow (n := 4) hu (Nat.pow_lt_pow_right (by omega) hx)) (hr.setm hx hb.2) hC8 (hF3.pol hC3.2.2.1 hf8) (fun j r' s1 g1 g2 g3 g4 g5 => hs j r' s1 g1 g2 g3 g4 (by omega)) hf
        · have q3 := bn1 q3
          rw [if_pos q3] at hf
          exact (hf rfl _ hF2).1
      · exact ⟨fun _ => (hf (conN_at q e) _ hF1).1, fun z => absurd (by decide) z⟩
    · have q : T[i]? ≠ some 58 := by rw [m58] at q; exact of_decide_eq_false q
      exact hs i r st (conN_no q) hC hF hr (Nat.le_refl _)
theorem C_rule {T : List Nat} {i p e : Nat} {D : Nat → Pl} {st : St} {Q : Int32 → St → Prop} (he : e < 2) (hC : CD st T i p D) (hD : okD D)
    (hs : ∀ j D' s1, ruN T e i p D = some (j, p, D') → CD s1 T j p D' → FC st s1 → okD D' → i ≤ j → Q 1 s1)
    (hf : ruN T e i p D = none → ∀ s1, FC st s1 → Q 0 s1 ∧ ∀ j, Tx s1 T j → T[j]? ≠ some 59 → Q 1 s1) : wp_X2_readRule (nI e) st Q := by
  intro P30 h30
  have hp := hC.2.2.1
  have hP := hC.2.2.2 p hp
  have hO := hD p hp
  unfold wp_X1_size
  rw [hC.sl, hP.1]
  have h8 := hO.2.1
  refine pk_lt (D p).2.length 8 (fun hl => ?_) (fun hl => (hf (ruN_full (by omega)) st (FC.rf st)).1)
  rw [hC.sl]
  refine s_insertRule hP hl (Nat.le_refl _) he (fun s1 hf1 hP1 => ?_)
  rw [List.insertIdx_length_self] at hP1
  have hC1 := hC.pol hf1 hP1
  have hok : okR (allR e) := ⟨he, by show 255 < 256; omega, by show 15 < 16; omega, by show 255 < 256; omega, by show 15 < 16; omega⟩
  refine C_con (D := D) hl h30 4 0 i 0 (allR e) s1 (by omega) (by omega) hok hC1 ((FC.rf st).pol hp hf1) (fun j r' s2 e1 e2 e3 e4 e5 => ?_) (fun e1 => hf (ruN_none e1))
  refine hs j _ s2 (ruN_some hl e1) e2 e3 (hD.set ⟨hO.1, ?_, fun k r hk => ?_⟩) e5
  · rw [List.length_append]; show _ + 1 ≤ 8; omega
  · have hk : ((D p).2 ++ [r'])[k]? = some r := hk
    rcases Nat.lt_or_ge k (D p).2.length with q | q
    · rw [List.getElem?_append_left q] at hk; exact hO.2.2 k r hk
    · rw [List.getElem?_append_right q] at hk
      rcases hz : k - (D p).2.length with _ | n
      · rw [hz] at hk
        have hk : some r' = some r := hk
        rw [← Option.some.inj hk]; exact e4
      · rw [hz] at hk; exact nomatch hk
theorem usN_none {T : List Nat} {i p : Nat} {D : Nat → Pl} (h : alN T i = none) : usN T i p D = none := by unfold usN; rw [h]
theorem usN_some {T : List Nat} {i p : Nat} {D : Nat → Pl} {x : Nat × Nat} (h : alN T i = some x) : usN T i p D = some (x.1, p, setD D p (x.2, (D p).2)) := by unfold usN; rw [h]
theorem Tx.le {st : St} {T : List Nat} {i : Nat} (h : Tx st T i) : i ≤ T.length := h.2.2.2.2
theorem bnt {b : Bool} (h : b = false) : ¬ b = true := by rw [h]; decide
theorem C_use {T : List Nat} {i p : Nat} {D : Nat → Pl} {st : St} {Q : Int32 → St → Prop} (hC : CD st T i p D) (hD : okD D)
    (hs : ∀ j D' s1, usN T i p D = some (j, p, D') → CD s1 T j p D' → FC st s1 → okD D' → i ≤ j → Q 1 s1)
    (hf : usN T i p D = none → ∀ s1, FC st s1 → Q 0 s1) : wp_X2_readAlgorithm st Q := by
  intro P70 h70
  have hp := hC.2.2.1
  have hi := hC.1.le
  have ok : ∀ a n, a < 5 → i + n ≤ T.length → alN T i = some (i + n, a) → P70 (nI a) (up2 st 5 5 (nI (i + n))) := by
    intro a n ha hn e
    have hC1 := hC.mv hn
    refine h70 _ _ ⟨fun c => absurd c ?_, fun _ => ?_⟩
    · rcases (show a = 0 ∨ a = 1 ∨ a = 2 ∨ a = 3 ∨ a = 4 by omega) with rfl | rfl | rfl | rfl | rfl <;> decide
    · rw [hC1.sl]
      refine s_use (hC1.2.2.2 p hp) (fun s1 hf1 hP1 => hs _ _ s1 (usN_some e) (hC1.pol hf1 hP1) (((FC.rf st).mv (by decide)).pol hp hf1) (hD.set ⟨ha, (hD p hp).2⟩) (by show i ≤ i + n; omega))
  refine s_accept (by decide) (by decide) hC.1 (fun q1 => g1 ?_) (fun q1 => g0 ?_)
  · exact ok 0 5 (by omega) (mt_len _ i hi q1) (if_pos q1)
  refine s_accept (by decide) (by decide) hC.1 (fun q2 => g1 ?_) (fun q2 => g0 ?_)
  · exact ok 1 8 (by omega) (mt_len _ i hi q2) (by unfold alN; rw [if_neg (bnt q1), if_pos q2])
  refine s_accept (by decide) (by decide) hC.1 (fun q3 => g1 ?_) (fun q3 => g0 ?_)
  · exact ok 2 10 (by omega) (mt_len _ i hi q3) (by unfold alN; rw [if_neg (bnt q1), if_neg (bnt q2), if_pos q3])
  refine s_accept (by decide) (by decide) hC.1 (fun q4 => g1 ?_) (fun q4 => g0 ?_)
  · exact ok 3 7 (by omega) (mt_len _ i hi q4) (by unfold alN; rw [if_neg (bnt q1), if_neg (bnt q2), if_neg (bnt q3), if_pos q4])
  refine s_accept (by decide) (by decide) hC.1 (fun q5 => g1 ?_) (fun q5 => g0 ?_)
  · exact ok 4 8 (by omega) (mt_len _ i hi q5) (by unfold alN; rw [if_neg (bnt q1), if_neg (bnt q2), if_neg (bnt q3), if_neg (bnt q4), if_pos q5])
  refine h70 _ _ ⟨fun _ => hf (usN_none ?_) st (FC.rf st), fun c => absurd rfl c⟩
  unfold alN
  rw [if_neg (bnt q1), if_neg (bnt q2), if_neg (bnt q3), if_neg (bnt q4), if_neg (bnt q5)]
theorem C_stmt {T : List Nat} {i p : Nat} {D : Nat → Pl} {st : St} {Q : Int32 → St → Prop} (hC : CD st T i p D) (hD : okD D)
    (hs : ∀ x s1, stN T i p D = some x → CD s1 T x.1 x.2.1 x.2.2 → FC st s1 → okD x.2.2 → i ≤ x.1 → Q 1 s1)
    (hf : stN T i p D = none → ∀ s1, FC st s1 → Q 0 s1 ∧ ∀ j, Tx s1 T j → T[j]? ≠ some 59 → Q 1 s1) : wp_X2_readStatement st Q := by
  have hi := hC.1.le
  refine s_accept (by decide) (by decide) hC.1 (fun q1 => g1 ?_) (fun q1 => g0 ?_)
  · exact hs (i + 3, 0, D) _ (if_pos q1) ((hC.mv (mt_len _ i hi q1)).sel (p' := 0) (by omega)) (((FC.rf st).mv (by decide)).mv (by decide)) hD (by show i ≤ i + 3; omega)
  refine s_accept (by decide) (by decide) hC.1 (fun q2 => g1 ?_) (fun q2 => g0 ?_)
  · exact hs (i + 3, 1, D) _ (by unfold stN; rw [if_neg (bnt q1), if_pos q2]) ((hC.mv (mt_len _ i hi q2)).sel (p' := 1) (by omega)) (((FC.rf st).mv (by decide)).mv (by decide)) hD (by show i ≤ i + 3; omega)
  refine s_accept (by decide) (by decide) hC.1 (fun q3 => g1 ?_) (fun q3 => g0 ?_)
  · have e : stN T i p D = usN T (i + 3) p D := by unfold stN; rw [if_neg (bnt q1), if_neg (bnt q2), if_pos q3]
    have hF : FC st (up2 st 5 5 (nI (i + 3))) := (FC.rf st).mv (by decide)
    exact C_use (hC.mv (mt_len _ i hi q3)) hD (fun j D' s1 e1 e2 e3 e4 e5 => ⟨Or.inr rfl, hs (j, p, D') s1 (e.trans e1) e2 (hF.tr e3) e4 (by show i ≤ j; omega)⟩) (fun e1 s1 e2 => ⟨Or.inl rfl, (hf (e.trans e1) s1 (hF.tr e2)).1⟩)
  refine s_accept (by decide) (by decide) hC.1 (fun q4 => g1 ?_) (fun q4 => g0 ?_)
  · have e : stN T i p D = ruN T 0 (i + 6) p D := by unfold stN; rw [if_neg (bnt q1), if_neg (bnt q2), if_neg (bnt q3), if_pos q4]
    have hF : FC st (up2 st 5 5 (nI (i + 6))) := (FC.rf st).mv (by decide)
    exact C_rule (e := 0) (by omega) (hC.mv (mt_len _ i hi q4)) hD (fun j D' s1 e1 e2 e3 e4 e5 => ⟨Or.inr rfl, hs (j, p, D') s1 (e.trans e1) e2 (hF.tr e3) e4 (by show i ≤ j; omega)⟩) (fun e1 s1 e2 => ⟨⟨Or.inl rfl, (hf (e.trans e1) s1 (hF.tr e2)).1⟩, fun j h1 h2 => ⟨Or.inr rfl, (hf (e.trans e1) s1 (hF.tr e2)).2 j h1 h2⟩⟩)
  refine s_accept (by decide) (by decide) hC.1 (fun q5 => g1 ?_) (fun q5 => g0 ?_)
  · have e : stN T i p D = ruN T 1 (i + 4) p D := by unfold stN; rw [if_neg (bnt q1), if_neg (bnt q2), if_neg (bnt q3), if_neg (bnt q4), if_pos q5]
    have hF : FC st (up2 st 5 5 (nI (i + 4))) := (FC.rf st).mv (by decide)
    exact C_rule (e := 1) (by omega) (hC.mv (mt_len _ i hi q5)) hD (fun j D' s1 e1 e2 e3 e4 e5 => g1 (hs (j, p, D') s1 (e.trans e1) e2 (hF.tr e3) e4 (by show i ≤ j; omega))) (fun e1 s1 e2 => ⟨g0 (hf (e.trans e1) s1 (hF.tr e2)).1, fun j h1 h2 => g1 ((hf (e.trans e1) s1 (hF.tr e2)).2 j h1 h2)⟩)
  exact (hf (by unfold stN; rw [if_neg (bnt q1), if_neg (bnt q2), if_neg (bnt q3), if_neg (bnt q4), if_neg (bnt q5)]) st (FC.rf st)).1
def D0 : Nat → Pl := fun _ => (0, [])
theorem okD0 : okD D0 := fun _ _ => ⟨by show 0 < 5; omega, by show 0 ≤ 8; omega, fun _ _ h => nomatch h⟩
theorem C_malf {T : List Nat} {st : St} {Q : Int32 → St → Prop} (hT : okT T) (h4 : st 5 4 = nI T.length) (h6 : ∀ (j c : Nat), T[j]? = some c → st 6 j = nI c)
    (he : ∀ e s1, e < 240 → topN T 240 0 0 D0 = .inl e → FC st s1 → Q (nI e) s1)
    (hs : ∀ D s1, topN T 240 0 0 D0 = .inr D → FC st s1 → okD D → (∀ q, q < 2 → CPs s1 (7 + 2 * q) (D q)) → Q (-4) s1) : wp_X2_firstMalformed st Q := by
  intro P29 h29
  have key : ∀ f x i p D s, x + f = 240 → x ≤ i → CD s T i p D → okD D → FC st s → topN T f i p D = topN T 240 0 0 D0 → P29 (nI x) s := by
    intro f
    induction f with
    | zero =>
      intro x i p D s hx hxi hC hD hF e
      exact h29 _ _ ⟨fun _ => hs D s e.symm hF hD hC.2.2.2, fun c => absurd (nI_le (a := 240) (by omega) (by omega)) c⟩
    | succ f ih =>
      intro x i p D s hx hxi hC hD hF e
      refine h29 _ _ ⟨fun c => absurd c (nI_ge (a := x) (b := 240) (by omega) (by omega)), fun _ => ?_⟩
      have hn := hT.1
      have hi := hC.1.le
      rw [hC.1.2.1, hC.1.2.2.2.1]
      refine pk_le T.length i (fun q => ?_) (fun q y hy => ?_)
      · rw [topN_end q] at e
        exact hs D s e.symm hF hD hC.2.2.2
      · subst hy
        have q : ¬ T.length ≤ i := by omega
        have bad59 : ∀ j s1, Tx s1 T j → T[j]? ≠ some 59 → Q (nI i) s1 → wp_X2_accept 13 s1 (fun r_5 s_4 => (r_5 = 0 → (Q (nI i) s_4)) ∧ (¬ r_5 = 0 → (∀ x1_6 : Int32, x1_6 = nI x + (1 : Int32) → P29 x1_6 s_4))) := by
          intro j s1 h1 h2 h3
          refine s_accept (by decide) (by decide) h1 (fun z => absurd (of_decide_eq_true (m59.symm.trans z)) h2) (fun _ => g0 h3)
        refine C_stmt hC hD (fun w s1 e1 e2 e3 e4 e5 => g1 ?_) (fun e1 s1 e2 => ?_)
        · rw [topN_some q e1] at e
          by_cases q2 : T[w.1]? = some 59
          · rw [if_pos q2] at e
            refine s_accept (by decide) (by decide) e2.1 (fun z => g1 (fun y hy => ?_)) (fun z => absurd q2 (of_decide_eq_false (m59.symm.trans z)))
            rw [hy, a1]
            exact ih (x + 1) (w.1 + 1) w.2.1 w.2.2 _ (by omega) (by omega) (e2.mv (tlt q2)) e4 ((hF.tr e3).mv (by decide)) e
          · rw [if_neg q2] at e
            exact bad59 w.1 s1 e2.1 q2 (he i s1 (by omega) e.symm (hF.tr e3))
        · rw [topN_none q e1] at e
          have h := he i s1 (by omega) e.symm (hF.tr e2)
          exact ⟨g0 h, fun j h1 h2 => g1 (bad59 j s1 h1 h2 h)⟩
  refine s_empty (fun s1 f1 p1 => s_empty (fun s2 f2 p2 => ?_))
  have e5 : ∀ c, c < 7 ∨ 10 < c → s2 c = st c := fun c hc => (f2 c (by omega) (by omega)).trans (f1 c (by omega) (by omega))
  refine key 240 0 0 0 D0 _ (by omega) (by omega) ⟨⟨hT, ?_, fun j c hj => ?_, ?_, by omega⟩, ?_, by omega, fun q hq => ?_⟩ okD0 ⟨fun c h1 h2 => ?_, ?_⟩ rfl
  · rw [up2_at, if_pos rfl, if_neg (by decide), up2_at, if_pos rfl, if_neg (by decide), e5 5 (by omega)]; exact h4
  · rw [up2_at, if_neg (by decide), up2_at, if_neg (by decide), e5 6 (by omega)]; exact h6 j c hj
  · rw [up2_at, if_pos rfl, if_pos rfl]; rfl
  · rw [up2_at, if_pos rfl, if_neg (by decide), up2_at, if_pos rfl, if_pos rfl]; rfl
  · have g : ∀ c, c ≠ 5 → (up2 (up2 s2 5 3 (0 : Int32)) 5 5 (0 : Int32)) c = s2 c := fun c hc => by unfold up2; rw [upR_ne _ _ hc, upR_ne _ _ hc]
    rcases (show q = 0 ∨ q = 1 by omega) with rfl | rfl
    · exact p1.congr ((g 7 (by omega)).trans (f2 7 (by omega) (by omega))) ((g 8 (by omega)).trans (f2 8 (by omega) (by omega)))
    · exact p2.congr (g 9 (by omega)) (g 10 (by omega))
  · unfold up2; rw [upR_ne _ _ h1, upR_ne _ _ h1]; exact e5 c h2
  · rw [up2_at, if_pos rfl, if_neg (by decide), up2_at, if_pos rfl, if_neg (by decide), e5 5 (by omega)]
