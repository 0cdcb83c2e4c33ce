def nxN (f : Nat → Bool) : Nat → Nat → Int32
  | 0, _ => -4
  | d + 1, q => if f q then nI q else nxN f d (q + 1)
theorem C_nextG {k k1 q0 : Nat} {P R : Pl} {st : St} {Q : Int32 → St → Prop} (hP : CPs st k P) (hR : CPs st k1 R) (ho : okP P) (ho2 : okP R) (hq0 : q0 < 1024) (h : Q (nxN (gB2 P R) (1024 - q0) q0) st) : wp_X4_nextGranted k k1 (nI q0) st Q := by
  intro P2 h2
  have key : ∀ d q, q + d = 1024 → Q (nxN (gB2 P R) d q) st → P2 (nI q) st := by
    intro d
    induction d with
    | zero =>
      intro q hq h
      have : q = 1024 := by omega
      subst this
      exact h2 _ _ ⟨fun _ => h, fun c => absurd e1024 c⟩
    | succ d ih =>
      intro q hq h
      unfold nxN at h
      refine h2 _ _ ⟨fun c => absurd c (n1024 (by omega)), fun _ => C_only hP hR ho ho2 (by omega) ⟨fun c y hy => ?_, fun c => ?_⟩⟩
      · rw [bI_0 c] at h
        rw [hy, a1]; exact ih (q + 1) (by omega) h
      · rw [bI_1 c] at h; exact h
  exact key (1024 - q0) q0 (by omega) h
theorem st_nextGain {st : St} (hI : Inv st) (x : Int32) : wp_X4_nextGain x st (fun r1 s1 => wp_X5_nextGain x s1 (fun r2 s2 => r1 = r2 ∧ Inv s2)) := by
  obtain ⟨A, ho, hC, hM⟩ := id hI
  rcases bad_or x (n := 1024) (by omega) with hb | ⟨q0, hq0, rfl⟩
  · exact C_isQ0 hb (g0 (fun P11 P32 _ _ => M_isQ0 hb (g0 ⟨rfl, hI⟩)))
  · refine C_isQ1 hq0 (g1 (C_nextG (hC.2.1 1 (by omega)) (hC.2.1 0 (by omega)) (ho.2.2.1 1 (by omega)) (ho.2.2.1 0 (by omega)) hq0 ?_))
    intro P11 P32 h11 h32
    refine M_isQ1 hq0 (g1 ?_)
    generalize hv : nxN (gB2 (A.2.1 1) (A.2.1 0)) (1024 - q0) q0 = v at h32
    have key : ∀ d q, q + d = 1024 → nxN (gB2 (A.2.1 1) (A.2.1 0)) d q = v → P11 (nI q) st := by
      intro d
      induction d with
      | zero =>
        intro q hq h
        have : q = 1024 := by omega
        subst this
        exact h11 _ _ ⟨fun _ => h32 _ _ ⟨fun _ => ⟨h.symm, hI⟩, fun c => absurd e1024 c⟩, fun c => absurd e1024 c⟩
      | succ d ih =>
        intro q hq h
        unfold nxN at h
        refine h11 _ _ ⟨fun c => absurd c (n1024 (by omega)), fun _ => M_gains hM ho (by omega) ⟨fun c y hy => ?_, fun c => h32 _ _ ⟨fun c2 => absurd c2 (n1024 (by omega)), fun _ => ⟨?_, hI⟩⟩⟩⟩
        · rw [bI_0 c] at h
          rw [hy, a1]; exact ih (q + 1) (by omega) h
        · rw [bI_1 c] at h; exact h.symm
    exact key (1024 - q0) q0 (by omega) hv
theorem st_nextLoss {st : St} (hI : Inv st) (x : Int32) : wp_X4_nextLoss x st (fun r1 s1 => wp_X5_nextLoss x s1 (fun r2 s2 => r1 = r2 ∧ Inv s2)) := by
  obtain ⟨A, ho, hC, hM⟩ := id hI
  rcases bad_or x (n := 1024) (by omega) with hb | ⟨q0, hq0, rfl⟩
  · exact C_isQ0 hb (g0 (fun P11 P32 _ _ => M_isQ0 hb (g0 ⟨rfl, hI⟩)))
  · refine C_isQ1 hq0 (g1 (C_nextG (hC.2.1 0 (by omega)) (hC.2.1 1 (by omega)) (ho.2.2.1 0 (by omega)) (ho.2.2.1 1 (by omega)) hq0 ?_))
    intro P11 P32 h11 h32
    refine M_isQ1 hq0 (g1 ?_)
    generalize hv : nxN (gB2 (A.2.1 0) (A.2.1 1)) (1024 - q0) q0 = v at h32
    have key : ∀ d q, q + d = 1024 → nxN (gB2 (A.2.1 0) (A.2.1 1)) d q = v → P11 (nI q) st := by
      intro d
      induction d with
      | zero =>
        intro q hq h
        have : q = 1024 := by omega
        subst this
        exact h11 _ _ ⟨fun _ => h32 _ _ ⟨fun _ => ⟨h.symm, hI⟩, fun c => absurd e1024 c⟩, fun c => absurd e1024 c⟩
      | succ d ih =>
        intro q hq h
        unfold nxN at h
        refine h11 _ _ ⟨fun c => absurd c (n1024 (by omega)), fun _ => M_loses hM ho (by omega) ⟨fun c y hy => ?_, fun c => h32 _ _ ⟨fun c2 => absurd c2 (n1024 (by omega)), fun _ => ⟨?_, hI⟩⟩⟩⟩
        · rw [bI_0 c] at h
          rw [hy, a1]; exact ih (q + 1) (by omega) h
        · rw [bI_1 c] at h; exact h.symm
    exact key (1024 - q0) q0 (by omega) hv
theorem st_transitionCount {st : St} (hI : Inv st) (x y : Int32) : wp_X4_transitionCount x y st (fun r1 s1 => wp_X5_transitionCount x y s1 (fun r2 s2 => r1 = r2 ∧ Inv s2)) := by
  obtain ⟨A, ho, hC, hM⟩ := id hI
  intro P21 h21
  rcases bad_or x (n := 4) (by omega) with hb | ⟨u, hu, rfl⟩
  · exact C_isD0 hb (g0 (fun P25 P60 _ _ => M_in0 (n := 3) (by omega) hb (g0 ⟨rfl, hI⟩)))
  · rcases bad_or y (n := 4) (by omega) with hb | ⟨v, hv, rfl⟩
    · exact C_isD1 hu (g1 (C_isD0 hb (g0 (fun P25 P60 _ _ => M_in1 (n := 3) (by omega) (by omega) (g1 (M_in0 (n := 3) (by omega) hb (g0 ⟨rfl, hI⟩)))))))
    · refine C_isD1 hu (g1 (C_isD1 hv (g1 ?_)))
      have hmod : wp_X5_transitionCount (nI u) (nI v) st (fun r2 s2 => nI (cnt (fun q => decide (dN (A.2.1 0) q = u) && decide (dN (A.2.1 1) q = v)) 1024) = r2 ∧ Inv s2) := by
        intro P25 P60 h25 h60
        refine M_in1 (n := 3) (by omega) (by omega) (g1 (M_in1 (n := 3) (by omega) (by omega) (g1 ?_)))
        refine cnt_loop (f := fun q => decide (dN (A.2.1 0) q = u) && decide (dN (A.2.1 1) q = v)) (h25 _ _ _ ⟨fun _ => ⟨rfl, hI⟩, fun c => absurd e1024 c⟩) (fun q hq hn => ?_)
        have hd0 := dN_le (A.2.1 0) q
        have hd1 := dN_le (A.2.1 1) q
        have hno : (decide (dN (A.2.1 0) q = u) && decide (dN (A.2.1 1) q = v)) = false → P60 (nI q) (nI (cnt (fun q => decide (dN (A.2.1 0) q = u) && decide (dN (A.2.1 1) q = v)) q)) st := fun hf => h60 _ _ _ (fun x hx y hy => by rw [hx, hy, a1 q, cnt_f0 (f := fun q => decide (dN (A.2.1 0) q = u) && decide (dN (A.2.1 1) q = v)) hf]; exact hn)
        refine h25 _ _ _ ⟨fun c => absurd c (n1024 hq), fun _ => s_decision (p := 0) (by omega) (hM.2.1 0 (by omega)) (ho.2.2.1 0 (by omega)) hq ⟨fun c => s_decision (p := 1) (by omega) (hM.2.1 1 (by omega)) (ho.2.2.1 1 (by omega)) hq ⟨fun c2 x hx y hy => ?_, fun c2 => hno ?_⟩, fun c => hno ?_⟩⟩
        · have c : dN (A.2.1 0) q = u := (nI_eq (by omega) (by omega)).mp c
          have c2 : dN (A.2.1 1) q = v := (nI_eq (by omega) (by omega)).mp c2
          rw [hx, hy, a1 q, cnt_t (f := fun q => decide (dN (A.2.1 0) q = u) && decide (dN (A.2.1 1) q = v)) (by rw [decide_eq_true c, decide_eq_true c2]; rfl)]; exact hn
        · have c2 : ¬ dN (A.2.1 1) q = v := fun z => c2 (by rw [← z]; rfl)
          rw [decide_eq_false c2]; simp
        · have c : ¬ dN (A.2.1 0) q = u := fun z => c (by rw [← z]; rfl)
          rw [decide_eq_false c]; rfl
      refine cnt_loop (f := fun q => decide (dN (A.2.1 0) q = u) && decide (dN (A.2.1 1) q = v)) (h21 _ _ _ ⟨fun _ => hmod, fun c => absurd e1024 c⟩) (fun q hq hn => ?_)
      have hd0 := dN_le (A.2.1 0) q
      have hd1 := dN_le (A.2.1 1) q
      refine h21 _ _ _ ⟨fun c => absurd c (n1024 hq), fun _ => s_decOn (hC.2.1 0 (by omega)) (ho.2.2.1 0 (by omega)) hq ⟨fun c => s_decOn (hC.2.1 1 (by omega)) (ho.2.2.1 1 (by omega)) hq ⟨fun c2 x hx y hy => ?_, fun c2 y hy => ?_⟩, fun c y hy => ?_⟩⟩
      · have c : dN (A.2.1 0) q = u := (nI_eq (by omega) (by omega)).mp c
        have c2 : dN (A.2.1 1) q = v := (nI_eq (by omega) (by omega)).mp c2
        rw [hx, hy, a1 q, cnt_t (f := fun q => decide (dN (A.2.1 0) q = u) && decide (dN (A.2.1 1) q = v)) (by rw [decide_eq_true c, decide_eq_true c2]; rfl)]; exact hn
      · have c2 : ¬ dN (A.2.1 1) q = v := fun z => c2 (by rw [← z]; rfl)
        rw [hy, a1 q, cnt_f (f := fun q => decide (dN (A.2.1 0) q = u) && decide (dN (A.2.1 1) q = v)) (by rw [decide_eq_false c2]; simp)]; exact hn
      · have c : ¬ dN (A.2.1 0) q = u := fun z => c (by rw [← z]; rfl)
        rw [hy, a1 q, cnt_f (f := fun q => decide (dN (A.2.1 0) q = u) && decide (dN (A.2.1 1) q = v)) (by rw [decide_eq_false c]; rfl)]; exact hn
-- the share
def nlzA (x0 x1 : Int32) : Int32 := x1 - ushr x0 (1 : Int32)
def nlzB (x0 x1 : Int32) : Int32 := if x0 < (4 : Int32) then nlzA x0 x1 else nlzA (ushr x0 (2 : Int32)) (x1 + (-2 : Int32))
def nlzC (x0 x1 : Int32) : Int32 := if x0 < (16 : Int32) then nlzB x0 x1 else nlzB (ushr x0 (4 : Int32)) (x1 + (-4 : Int32))
def nlzD (x0 x1 : Int32) : Int32 := if x0 < (256 : Int32) then nlzC x0 x1 else nlzC (ushr x0 (8 : Int32)) (x1 + (-8 : Int32))
theorem s_nlz {x : Int32} {st : St} {Q : Int32 → St → Prop} (h0 : 0 < x) (h1 : x < (65536 : Int32)) (h : Q (nlzD x 31) st) : wp_J6_numberOfLeadingZeros_0f7a4 x st Q := by
  intro P33 P48 P61 P73 h33 h48 h61 h73
  have k73 : ∀ x0 x1, Q (nlzA x0 x1) st → P73 x0 x1 st := fun x0 x1 h => h73 _ _ _ h
  have k61 : ∀ x0 x1, Q (nlzB x0 x1) st → P61 x0 x1 st := by
    intro x0 x1 h
    unfold nlzB at h
    refine h61 _ _ _ ⟨fun c => ?_, fun c a ha b hb => ?_⟩
    · rw [if_pos c] at h; exact k73 _ _ h
    · rw [if_neg c] at h; rw [ha, hb]; exact k73 _ _ h
  have k48 : ∀ x0 x1, Q (nlzC x0 x1) st → P48 x0 x1 st := by
    intro x0 x1 h
    unfold nlzC at h
    refine h48 _ _ _ ⟨fun c => ?_, fun c a ha b hb => ?_⟩
    · rw [if_pos c] at h; exact k61 _ _ h
    · rw [if_neg c] at h; rw [ha, hb]; exact k61 _ _ h
  have k33 : ∀ x0 x1, Q (nlzD x0 x1) st → P33 x0 x1 st := by
    intro x0 x1 h
    unfold nlzD at h
    refine h33 _ _ _ ⟨fun c => ?_, fun c a ha b hb => ?_⟩
    · rw [if_pos c] at h; exact k48 _ _ h
    · rw [if_neg c] at h; rw [ha, hb]; exact k48 _ _ h
  exact ⟨fun _ => ⟨fun _ => k33 _ _ h, fun c => absurd h1 c⟩, fun c => absurd h0 c⟩
def shC (x : Int32) : Int32 := (((117 : Int32) + ((31 : Int32) - nlzD x 31)) <<< ((23 : Int32) &&& (31 : Int32))) ||| ((x <<< (((23 : Int32) - ((31 : Int32) - nlzD x 31)) &&& (31 : Int32))) &&& (8388607 : Int32))
def shM (x2 x3 : Int32) : Int32 := ((((127 : Int32) + x3) - (10 : Int32)) <<< ((23 : Int32) &&& (31 : Int32))) ||| ((x2 ^^^ ((1 : Int32) <<< (x3 &&& (31 : Int32)))) <<< (((23 : Int32) - x3) &&& (31 : Int32)))
def lgN (n : Nat) : Nat := if n < 2 then 0 else if n < 4 then 1 else if n < 8 then 2 else if n < 16 then 3 else if n < 32 then 4 else if n < 64 then 5 else if n < 128 then 6 else if n < 256 then 7 else if n < 512 then 8 else if n < 1024 then 9 else 10
theorem sh_eq : ∀ n, n < 1025 → n ≠ 0 → (shC (nI n) = shM (nI n) (nI (lgN n)) ∧ (nI n >>> (nI (lgN n) &&& 31)) ≤ 1 ∧ ∀ i, i < lgN n → ¬ (nI n >>> (nI i &&& 31)) ≤ 1) := by decide +kernel
theorem st_grantedShareBits {st : St} (hI : Inv st) (x : Int32) : wp_X4_grantedShareBits x st (fun r1 s1 => wp_X5_grantedShareBits x s1 (fun r2 s2 => r1 = r2 ∧ Inv s2)) := by
  obtain ⟨A, ho, hC, hM⟩ := id hI
  rcases bad_or x (n := 2) (by omega) with hb | ⟨p, hp, rfl⟩
  · exact C_isP0 hb (g0 (fun P24 _ => M_isP0 hb (g0 ⟨rfl, hI⟩)))
  · have hP := ho.2.2.1 p hp
    refine C_isP1 hp (g1 (C_pn hp (C_reqDecided (w := 0) (hC.2.1 p hp) hP (by omega) ?_)))
    have hle := cnt_le (fun q => decide (dN (A.2.1 p) q = 0)) 1024
    have hm : ∀ v, (cnt (fun q => decide (dN (A.2.1 p) q = 0)) 1024 = 0 → v = (0 : Int32)) → (cnt (fun q => decide (dN (A.2.1 p) q = 0)) 1024 ≠ 0 → v = shC (nI (cnt (fun q => decide (dN (A.2.1 p) q = 0)) 1024))) → wp_X5_grantedShareBits (nI p) st (fun r2 s2 => v = r2 ∧ Inv s2) := by
      intro v hv0 hv1 P24 h24
      refine M_isP1 hp (g1 (M_decCount (w := 0) hp (hM.2.1 p hp) hP (by omega) ?_))
      generalize cnt (fun q => decide (dN (A.2.1 p) q = 0)) 1024 = n at hle hv0 hv1
      refine ⟨fun c => ⟨hv0 ((nI0 (by omega)).mp c), hI⟩, fun c => ?_⟩
      have hn : n ≠ 0 := fun z => c (by rw [z]; rfl)
      obtain ⟨e1, e2, e3⟩ := sh_eq n (by omega) hn
      have key : ∀ d i, i + d = lgN n → P24 (nI n) (nI i) st := by
        intro d
        induction d with
        | zero =>
          intro i hi
          have : i = lgN n := by omega
          subst this
          exact h24 _ _ _ ⟨fun _ => ⟨by rw [hv1 hn, e1]; rfl, hI⟩, fun c => absurd e2 c⟩
        | succ d ih =>
          intro i hi
          refine h24 _ _ _ ⟨fun c => absurd c (e3 i (by omega)), fun _ y hy => ?_⟩
          rw [hy, a1]; exact ih (i + 1) (by omega)
      exact key (lgN n) 0 (by omega)
    generalize cnt (fun q => decide (dN (A.2.1 p) q = 0)) 1024 = n at hle hm
    refine ⟨fun c => ?_, fun c => ?_⟩
    · have hn : n ≠ 0 := fun z => by rw [z] at c; exact absurd c (by decide)
      refine s_nlz c (nI_lt (b := 65536) (by omega) (by omega)) (fun y hy z hz w hw => ?_)
      rw [hz, hw, hy]
      exact hm _ (fun z => absurd z hn) (fun _ => rfl)
    · have hn : n = 0 := by
        rcases Nat.eq_zero_or_pos n with z | z
        · exact z
        · exact absurd (nI_lt (a := 0) z (by omega)) c
      exact hm _ (fun _ => rfl) (fun z => absurd hn z)
