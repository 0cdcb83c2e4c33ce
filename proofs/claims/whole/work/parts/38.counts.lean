def dN (P : Pl) (q : Nat) : Nat := decN P.1 (denN P.2) (apN P.2 q)
theorem decN_le (a D S : Nat) : decN a D S ≤ 3 := by
  unfold decN
  repeat' split
  all_goals omega
theorem dN_le (P : Pl) (q : Nat) : dN P q ≤ 3 := decN_le _ _ _
def cnt (f : Nat → Bool) : Nat → Nat
  | 0 => 0
  | n + 1 => cnt f n + (f n).toNat
theorem cnt_le (f : Nat → Bool) (n : Nat) : cnt f n ≤ n := by
  induction n with
  | zero => exact Nat.le_refl 0
  | succ n ih => have := bl (f n); show cnt f n + (f n).toNat ≤ n + 1; omega
theorem cnt_t {f : Nat → Bool} {n : Nat} (h : f n = true) : nI (cnt f n) + (1 : Int32) = nI (cnt f (n + 1)) := by
  show _ = nI (cnt f n + (f n).toNat); rw [h, a1]; rfl
theorem cnt_f {f : Nat → Bool} {n : Nat} (h : f n = false) : nI (cnt f n) = nI (cnt f (n + 1)) := by
  show _ = nI (cnt f n + (f n).toNat); rw [h]; rfl
theorem cnt_f0 {f : Nat → Bool} {n : Nat} (h : f n = false) : nI (cnt f n) + (0 : Int32) = nI (cnt f (n + 1)) := by
  rw [← cnt_f h, show (0 : Int32) = nI 0 from rfl, nI_add, Nat.add_zero]
/-- a loop over all requests that counts -/
theorem cnt_loop {f : Nat → Bool} {st : St} {P : Int32 → Int32 → St → Prop} (hx : P (nI (cnt f 1024)) (nI 1024) st) (hs : ∀ q, q < 1024 → P (nI (cnt f (q + 1))) (nI (q + 1)) st → P (nI (cnt f q)) (nI q) st) : P 0 0 st := by
  have key : ∀ d q, q + d = 1024 → P (nI (cnt f q)) (nI q) st := by
    intro d
    induction d with
    | zero =>
      intro q hq
      have : q = 1024 := by omega
      subst this
      exact hx
    | succ d ih => intro q hq; exact hs q (by omega) (ih (q + 1) (by omega))
  exact key 1024 0 (by omega)
theorem e1024 : (1024 : Int32) ≤ nI 1024 := by decide
theorem n1024 {q : Nat} (h : q < 1024) : ¬ (1024 : Int32) ≤ nI q := nI_ge (a := q) (b := 1024) h (by omega)
theorem C_reqDecided {k w : Nat} {P : Pl} {st : St} {Q : Int32 → St → Prop} (hP : CPs st k P) (ho : okP P) (hw : w < 4) (h : Q (nI (cnt (fun q => decide (dN P q = w)) 1024)) st) : wp_X4_requestsDecided k (nI w) st Q := by
  intro P4 h4
  refine cnt_loop (f := fun q => decide (dN P q = w)) (h4 _ _ _ ⟨fun _ => h, fun c => absurd e1024 c⟩) (fun q hq hn => ?_)
  have hd := dN_le P q
  refine h4 _ _ _ ⟨fun c => absurd c (n1024 hq), fun _ => s_decOn hP ho hq ⟨fun c x hx y hy => ?_, fun c y hy => ?_⟩⟩
  · have c : dN P q = w := (nI_eq (by omega) (by omega)).mp c
    rw [hx, hy, a1 q, cnt_t (f := fun q => decide (dN P q = w)) (decide_eq_true c)]; exact hn
  · have c : ¬ dN P q = w := fun z => c (by rw [← z]; rfl)
    rw [hy, a1 q, cnt_f (f := fun q => decide (dN P q = w)) (decide_eq_false c)]; exact hn
theorem M_decCount {p w : Nat} {P : Pl} {st : St} {Q : Int32 → St → Prop} (hp : p < 2) (hP : MPs st p P) (ho : okP P) (hw : w < 4) (h : Q (nI (cnt (fun q => decide (dN P q = w)) 1024)) st) : wp_X5_decisionCount (nI p) (nI w) st Q := by
  intro P4 h4
  refine M_isP1 hp (g1 (M_in1 (n := 3) (by omega) (by omega) (g1 ?_)))
  refine cnt_loop (f := fun q => decide (dN P q = w)) (h4 _ _ _ ⟨fun _ => h, fun c => absurd e1024 c⟩) (fun q hq hn => ?_)
  have hd := dN_le P q
  refine h4 _ _ _ ⟨fun c => absurd c (n1024 hq), fun _ => s_decision hp hP ho hq ⟨fun c x hx y hy => ?_, fun c x hx y hy => ?_⟩⟩
  · have c : dN P q = w := (nI_eq (by omega) (by omega)).mp c
    rw [hx, hy, a1 q, cnt_t (f := fun q => decide (dN P q = w)) (decide_eq_true c)]; exact hn
  · have c : ¬ dN P q = w := fun z => c (by rw [← z]; rfl)
    rw [hx, hy, a1 q, cnt_f0 (f := fun q => decide (dN P q = w)) (decide_eq_false c)]; exact hn
theorem st_decisionCount {st : St} (hI : Inv st) (x y : Int32) : wp_X4_decisionCount x y st (fun r1 s1 => wp_X5_decisionCount x y s1 (fun r2 s2 => r1 = r2 ∧ Inv s2)) := by
  obtain ⟨A, ho, hC, hM⟩ := id hI
  rcases bad_or x (n := 2) (by omega) with hb | ⟨p, hp, rfl⟩
  · exact C_isP0 hb (g0 (fun P _ => M_isP0 hb (g0 ⟨rfl, hI⟩)))
  · have hP := ho.2.2.1 p hp
    rcases bad_or y (n := 4) (by omega) with hb | ⟨w, hw, rfl⟩
    · exact C_isP1 hp (g1 (C_isD0 hb (g0 (fun P _ => M_isP1 hp (g1 (M_in0 (n := 3) (by omega) hb (g0 ⟨rfl, hI⟩)))))))
    · exact C_isP1 hp (g1 (C_isD1 hw (g1 (C_pn hp (C_reqDecided (hC.2.1 p hp) hP hw (M_decCount hp (hM.2.1 p hp) hP hw ⟨rfl, hI⟩))))))
/-- P grants, R doesn't -/
def gB2 (P R : Pl) (q : Nat) : Bool := decide (dN P q = 0) && !decide (dN R q = 0)
theorem C_only {k k1 q : Nat} {P R : Pl} {st : St} {Q : Int32 → St → Prop} (hP : CPs st k P) (hR : CPs st k1 R) (ho : okP P) (ho2 : okP R) (hq : q < 1024) (h : Q (bI (gB2 P R q)) st) : wp_X4_isGrantedOnlyBy k k1 (nI q) st Q := by
  have hd := dN_le P q
  have hd2 := dN_le R q
  unfold gB2 at h
  refine s_decOn hP ho hq ⟨fun c => s_decOn hR ho2 hq ⟨fun c2 => ?_, fun c2 => ?_⟩, fun c => ?_⟩
  · have c : dN P q = 0 := (nI0 (by omega)).mp c
    have c2 : dN R q = 0 := (nI0 (by omega)).mp c2
    rw [c, c2] at h; exact h
  · have c : dN P q = 0 := (nI0 (by omega)).mp c
    have c2 : ¬ dN R q = 0 := fun z => c2 (by rw [show decN R.1 (denN R.2) (apN R.2 q) = 0 from z]; rfl)
    rw [decide_eq_true c, decide_eq_false c2] at h; exact h
  · have c : ¬ dN P q = 0 := fun z => c (by rw [show decN P.1 (denN P.2) (apN P.2 q) = 0 from z]; rfl)
    rw [decide_eq_false c] at h; exact h
theorem bI_0 {b : Bool} (h : bI b = 0) : b = false := by cases b with
  | true => exact absurd h (by decide)
  | false => rfl
theorem bI_1 {b : Bool} (h : ¬ bI b = 0) : b = true := by cases b with
  | true => rfl
  | false => exact absurd rfl h
theorem M_gains {q : Nat} {A : AS} {st : St} {Q : Int32 → St → Prop} (hM : MS st A) (ho : okA A) (hq : q < 1024) (h : Q (bI (gB2 (A.2.1 1) (A.2.1 0) q)) st) : wp_X5_gains (nI q) st Q := by
  have hd := dN_le (A.2.1 1) q
  have hd2 := dN_le (A.2.1 0) q
  unfold gB2 at h
  refine s_decision (p := 1) (by omega) (hM.2.1 1 (by omega)) (ho.2.2.1 1 (by omega)) hq ⟨fun c => s_decision (p := 0) (by omega) (hM.2.1 0 (by omega)) (ho.2.2.1 0 (by omega)) hq ⟨fun c2 => ?_, fun c2 => ?_⟩, fun c => ?_⟩
  · have c : dN (A.2.1 1) q = 0 := (nI0 (by omega)).mp c
    have c2 : dN (A.2.1 0) q = 0 := (nI0 (by omega)).mp c2
    rw [c, c2] at h; exact h
  · have c : dN (A.2.1 1) q = 0 := (nI0 (by omega)).mp c
    have c2 : ¬ dN (A.2.1 0) q = 0 := fun z => c2 (by rw [show decN (A.2.1 0).1 (denN (A.2.1 0).2) (apN (A.2.1 0).2 q) = 0 from z]; rfl)
    rw [decide_eq_true c, decide_eq_false c2] at h; exact h
  · have c : ¬ dN (A.2.1 1) q = 0 := fun z => c (by rw [show decN (A.2.1 1).1 (denN (A.2.1 1).2) (apN (A.2.1 1).2 q) = 0 from z]; rfl)
    rw [decide_eq_false c] at h; exact h
theorem M_loses {q : Nat} {A : AS} {st : St} {Q : Int32 → St → Prop} (hM : MS st A) (ho : okA A) (hq : q < 1024) (h : Q (bI (gB2 (A.2.1 0) (A.2.1 1) q)) st) : wp_X5_loses (nI q) st Q := by
  have hd := dN_le (A.2.1 0) q
  have hd2 := dN_le (A.2.1 1) q
  unfold gB2 at h
  refine s_decision (p := 0) (by omega) (hM.2.1 0 (by omega)) (ho.2.2.1 0 (by omega)) hq ⟨fun c => s_decision (p := 1) (by omega) (hM.2.1 1 (by omega)) (ho.2.2.1 1 (by omega)) hq ⟨fun c2 => ?_, fun c2 => ?_⟩, fun c => ?_⟩
  · have c : dN (A.2.1 0) q = 0 := (nI0 (by omega)).mp c
    have c2 : dN (A.2.1 1) q = 0 := (nI0 (by omega)).mp c2
    rw [c, c2] at h; exact h
  · have c : dN (A.2.1 0) q = 0 := (nI0 (by omega)).mp c
    have c2 : ¬ dN (A.2.1 1) q = 0 := fun z => c2 (by rw [show decN (A.2.1 1).1 (denN (A.2.1 1).2) (apN (A.2.1 1).2 q) = 0 from z]; rfl)
    rw [decide_eq_true c, decide_eq_false c2] at h; exact h
  · have c : ¬ dN (A.2.1 0) q = 0 := fun z => c (by rw [show decN (A.2.1 0).1 (denN (A.2.1 0).2) (apN (A.2.1 0).2 q) = 0 from z]; rfl)
    rw [decide_eq_false c] at h; exact h
theorem C_countG {k k1 : Nat} {P R : Pl} {st : St} {Q : Int32 → St → Prop} (hP : CPs st k P) (hR : CPs st k1 R) (ho : okP P) (ho2 : okP R) (h : Q (nI (cnt (gB2 P R) 1024)) st) : wp_X4_countGranted k k1 st Q := by
  intro P4 h4
  refine cnt_loop (f := gB2 P R) (h4 _ _ _ ⟨fun _ => h, fun c => absurd e1024 c⟩) (fun q hq hn => ?_)
  refine h4 _ _ _ ⟨fun c => absurd c (n1024 hq), fun _ => C_only hP hR ho ho2 hq ⟨fun c y hy => ?_, fun c x hx y hy => ?_⟩⟩
  · rw [hy, a1 q, cnt_f (bI_0 c)]; exact hn
  · rw [hx, hy, a1 q, cnt_t (bI_1 c)]; exact hn
theorem st_gainCount {st : St} (hI : Inv st) : wp_X4_gainCount st (fun r1 s1 => wp_X5_gainCount s1 (fun r2 s2 => r1 = r2 ∧ Inv s2)) := by
  obtain ⟨A, ho, hC, hM⟩ := id hI
  refine C_countG (hC.2.1 1 (by omega)) (hC.2.1 0 (by omega)) (ho.2.2.1 1 (by omega)) (ho.2.2.1 0 (by omega)) ?_
  intro P4 h4
  refine cnt_loop (f := gB2 (A.2.1 1) (A.2.1 0)) (h4 _ _ _ ⟨fun _ => ⟨rfl, hI⟩, fun c => absurd e1024 c⟩) (fun q hq hn => ?_)
  refine h4 _ _ _ ⟨fun c => absurd c (n1024 hq), fun _ => M_gains hM ho hq ⟨fun c x hx y hy => ?_, fun c x hx y hy => ?_⟩⟩
  · rw [hx, hy, a1 q, cnt_f0 (bI_0 c)]; exact hn
  · rw [hx, hy, a1 q, cnt_t (bI_1 c)]; exact hn
theorem st_lossCount {st : St} (hI : Inv st) : wp_X4_lossCount st (fun r1 s1 => wp_X5_lossCount s1 (fun r2 s2 => r1 = r2 ∧ Inv s2)) := by
  obtain ⟨A, ho, hC, hM⟩ := id hI
  refine C_countG (hC.2.1 0 (by omega)) (hC.2.1 1 (by omega)) (ho.2.2.1 0 (by omega)) (ho.2.2.1 1 (by omega)) ?_
  intro P4 h4
  refine cnt_loop (f := gB2 (A.2.1 0) (A.2.1 1)) (h4 _ _ _ ⟨fun _ => ⟨rfl, hI⟩, fun c => absurd e1024 c⟩) (fun q hq hn => ?_)
  refine h4 _ _ _ ⟨fun c => absurd c (n1024 hq), fun _ => M_loses hM ho hq ⟨fun c x hx y hy => ?_, fun c x hx y hy => ?_⟩⟩
  · rw [hx, hy, a1 q, cnt_f0 (bI_0 c)]; exact hn
  · rw [hx, hy, a1 q, cnt_t (bI_1 c)]; exact hn
theorem rs_pt : ∀ q, q < 1024 → ∀ a, a < 4 → (nI q >>> (rsF a &&& (31 : Int32))) &&& (vcF a - (1 : Int32)) = nI (pt q a) := by
  intro q hq a ha
  rcases (show a = 0 ∨ a = 1 ∨ a = 2 ∨ a = 3 by omega) with rfl | rfl | rfl | rfl
  · rw [show rsF 0 = (7 : Int32) from rfl, show vcF 0 - (1 : Int32) = 7 by decide, pk_shrN (by omega) _ 7 (by decide), pk_andN (by omega) 3 (by decide)]
    congr 1; show q / 128 % 8 = q / 128; omega
  · rw [show rsF 1 = (5 : Int32) from rfl, show vcF 1 - (1 : Int32) = 3 by decide, pk_shrN (by omega) _ 5 (by decide), pk_andN (by omega) 2 (by decide)]; rfl
  · rw [show rsF 2 = (2 : Int32) from rfl, show vcF 2 - (1 : Int32) = 7 by decide, pk_shrN (by omega) _ 2 (by decide), pk_andN (by omega) 3 (by decide)]; rfl
  · rw [show rsF 3 = (0 : Int32) from rfl, show vcF 3 - (1 : Int32) = 3 by decide, pk_shrN (by omega) _ 0 (by decide), pk_andN (by omega) 2 (by decide)]
    congr 1; show q / 1 % 4 = q % 4; omega
theorem C_valueIn {q a : Nat} {st : St} {Q : Int32 → St → Prop} (hq : q < 1024) (ha : a < 4) (h : Q (nI (pt q a)) st) : wp_X4_valueIn (nI q) (nI a) st Q := by
  unfold wp_X4_valueIn
  rw [nI_clamp (by omega), rs_pt q hq a ha]
  exact ⟨vp_in_nI ha (by omega), vp_in_nI ha (by omega), h⟩
theorem M_valuesOf {a : Nat} {st : St} {Q : Int32 → St → Prop} (ha : a < 4) (h : Q (nI (vcN a)) st) : wp_X5_valuesOf (nI a) st Q := by
  rcases (show a = 0 ∨ a = 1 ∨ a = 2 ∨ a = 3 by omega) with rfl | rfl | rfl | rfl
  · exact ⟨fun _ => h, fun c => absurd rfl c⟩
  · exact ⟨fun c => absurd c (by decide), fun _ => ⟨fun c => absurd c (by decide), fun _ => h⟩⟩
  · exact ⟨fun c => absurd c (by decide), fun _ => ⟨fun _ => h, fun c => absurd rfl c⟩⟩
  · exact ⟨fun c => absurd c (by decide), fun _ => ⟨fun c => absurd c (by decide), fun _ => h⟩⟩
theorem vcN_pos {a : Nat} (ha : a < 4) : 0 < vcN a := by
  rcases (show a = 0 ∨ a = 1 ∨ a = 2 ∨ a = 3 by omega) with rfl | rfl | rfl | rfl <;> decide
theorem st_gainCountOf {st : St} (hI : Inv st) (x y : Int32) : wp_X4_gainCountOf x y st (fun r1 s1 => wp_X5_gainCountOf x y s1 (fun r2 s2 => r1 = r2 ∧ Inv s2)) := by
  obtain ⟨A, ho, hC, hM⟩ := id hI
  intro P27 h27
  rcases bad_or x (n := 4) (by omega) with hb | ⟨a, ha, rfl⟩
  · exact C_isA0 hb (g0 (fun P30 P62 _ _ => M_in0 (n := 3) (by omega) hb (g0 ⟨rfl, hI⟩)))
  · have hv := vcN_le a ha
    have hvp := vcN_pos ha
    refine C_isA1 ha (g1 ?_)
    rw [nI_clamp (by omega), vcF_N a ha]
    have ev : nI (vcN a) - (1 : Int32) = nI (vcN a - 1) := pk_sub (b := 1) (by omega)
    rcases bad_or y (n := vcN a) (by omega) with hb | ⟨v, hv2, rfl⟩
    · have hbad : wp_X5_gainCountOf (nI a) y st (fun r2 s2 => (-1 : Int32) = r2 ∧ Inv s2) := by
        intro P30 P62 _ _
        refine M_in1 (n := 3) (by omega) (by omega) (g1 (M_valuesOf ha ?_))
        rw [ev]
        exact M_in0 (by omega) (by rw [show vcN a - 1 + 1 = vcN a by omega]; exact hb) (g0 ⟨rfl, hI⟩)
      refine ⟨fun _ => hbad, fun c => ⟨vp_in_nI ha (by omega), fun c2 => ?_, fun _ => hbad⟩⟩
      rcases hb with q | q
      · exact absurd q c
      · exact absurd c2 (fun w => by
          have h1 := Int32.lt_iff_toInt_lt.mp w
          have h2 := Int32.le_iff_toInt_le.mp q
          omega)
    · refine ⟨fun c => absurd c (nI_pos (by omega)), fun _ => ⟨vp_in_nI ha (by omega), fun _ => ?_, fun c => absurd (nI_lt hv2 (by omega)) c⟩⟩
      have hmod : wp_X5_gainCountOf (nI a) (nI v) st (fun r2 s2 => nI (cnt (fun q => decide (pt q a = v) && gB2 (A.2.1 1) (A.2.1 0) q) 1024) = r2 ∧ Inv s2) := by
        intro P30 P62 h30 h62
        refine M_in1 (n := 3) (by omega) (by omega) (g1 (M_valuesOf ha ?_))
        rw [ev]
        refine M_in1 (by omega) (by omega) (g1 ?_)
        refine cnt_loop (f := fun q => decide (pt q a = v) && gB2 (A.2.1 1) (A.2.1 0) q) (h30 _ _ _ ⟨fun _ => ⟨rfl, hI⟩, fun c => absurd e1024 c⟩) (fun q hq hn => ?_)
        have hpt := pt_lt (q := q) hq ha
        have hno : (decide (pt q a = v) && gB2 (A.2.1 1) (A.2.1 0) q) = false → P62 (nI q) (nI (cnt (fun q => decide (pt q a = v) && gB2 (A.2.1 1) (A.2.1 0) q) q)) st := fun hf => h62 _ _ _ (fun x hx y hy => by rw [hx, hy, a1 q, cnt_f0 hf]; exact hn)
        refine h30 _ _ _ ⟨fun c => absurd c (n1024 hq), fun _ => s_partOf hq ha ⟨fun c => M_gains hM ho hq ⟨fun c2 => hno ?_, fun c2 x hx y hy => ?_⟩, fun c => hno ?_⟩⟩
        · rw [bI_0 c2]; simp
        · have c := (nI_eq (by omega) (by omega)).mp c
          rw [hx, hy, a1 q, cnt_t (f := fun q => decide (pt q a = v) && gB2 (A.2.1 1) (A.2.1 0) q) (by rw [decide_eq_true c, bI_1 c2]; rfl)]; exact hn
        · have c : ¬ pt q a = v := fun z => c (by rw [z])
          rw [decide_eq_false c]; rfl
      refine cnt_loop (f := fun q => decide (pt q a = v) && gB2 (A.2.1 1) (A.2.1 0) q) (h27 _ _ _ ⟨fun _ => hmod, fun c => absurd e1024 c⟩) (fun q hq hn => ?_)
      have hpt := pt_lt (q := q) hq ha
      refine h27 _ _ _ ⟨fun c => absurd c (n1024 hq), fun _ => C_valueIn hq ha ⟨fun c => C_only (hC.2.1 1 (by omega)) (hC.2.1 0 (by omega)) (ho.2.2.1 1 (by omega)) (ho.2.2.1 0 (by omega)) hq ⟨fun c2 y hy => ?_, fun c2 x hx y hy => ?_⟩, fun c y hy => ?_⟩⟩
      · rw [hy, a1 q, cnt_f (f := fun q => decide (pt q a = v) && gB2 (A.2.1 1) (A.2.1 0) q) (by rw [bI_0 c2]; simp)]; exact hn
      · have c := (nI_eq (by omega) (by omega)).mp c
        rw [hx, hy, a1 q, cnt_t (f := fun q => decide (pt q a = v) && gB2 (A.2.1 1) (A.2.1 0) q) (by rw [decide_eq_true c, bI_1 c2]; rfl)]; exact hn
      · have c : ¬ pt q a = v := fun z => c (by rw [z])
        rw [hy, a1 q, cnt_f (f := fun q => decide (pt q a = v) && gB2 (A.2.1 1) (A.2.1 0) q) (by rw [decide_eq_false c]; rfl)]; exact hn
