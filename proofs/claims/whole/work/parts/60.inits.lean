/-! what a new program and a new reference hold -/
def iT : List Nat := [112, 101, 114, 109, 105, 116, 58, 115, 48, 49, 58, 114, 48, 49, 50, 51, 59, 100, 101, 110, 121, 58, 97, 51, 59, 117, 115, 101, 100, 101, 110, 121, 111, 118, 101, 114, 59, 110, 101, 119, 59, 112, 101, 114, 109, 105, 116, 58, 115, 48, 49, 50, 58, 114, 48, 49, 50, 51, 59, 100, 101, 110, 121, 58, 97, 51, 58, 108, 48, 49, 59, 112, 101, 114, 109, 105, 116, 58, 115, 48, 59, 117, 115, 101, 102, 105, 114, 115, 116, 59]
def iP0 : Pl := (1, [(0, 3, 15, 15, 15), (1, 255, 8, 255, 15)])
def iP1 : Pl := (0, [(0, 7, 15, 15, 15), (1, 255, 8, 255, 3), (0, 1, 15, 255, 15)])
def evT : Option (Pl × Pl) := match topN iT 240 0 0 D0 with
  | .inl _ => none
  | .inr D => some (D 0, D 1)
theorem evT_eq : evT = some (iP0, iP1) := by rfl
theorem nil_at {α : Type} {j : Nat} {c : α} (h : ([] : List α)[j]? = some c) : False := by rw [List.getElem?_nil] at h; exact nomatch h
theorem iT_ch : ∀ j, j < 90 → chSx 0 j = nI (iT.getD j 0) ∧ iT.getD j 0 < 127 ∧ 32 ≤ iT.getD j 0 := by decide +kernel
theorem iT_len : iT.length = 90 := by decide +kernel
theorem iT_at {j c : Nat} (h : iT[j]? = some c) : j < 90 ∧ iT.getD j 0 = c := by
  refine ⟨by have := (List.getElem?_eq_some_iff.mp h).1; rw [iT_len] at this; exact this, ?_⟩
  rw [List.getD_eq_getElem?_getD, h]; rfl
theorem iT_ok : okT iT := ⟨by rw [iT_len]; omega, fun j c h => by
  obtain ⟨h1, h2⟩ := iT_at h
  have := iT_ch j h1
  rw [h2] at this
  omega⟩
def CC (st : St) : Prop := st 5 4 = 0 ∧ CPs st 1 iP0 ∧ CPs st 3 iP1 ∧ st 11 2 = 0
theorem i_X4 : wp_X4_initT st0 CC := by
  intro P61 h61
  have e90 : nI (lenSx.getD 0 0) = nI 90 := rfl
  have key : ∀ d i (s : St), i + d = 90 → s 5 4 = nI i → (∀ j, j < i → s 6 j = nI (iT.getD j 0)) → s 11 2 = 0 → P61 (nI i) s := by
    intro d
    induction d with
    | zero =>
      intro i s hi h5 h6 h11
      have : i = 90 := by omega
      subst this
      refine h61 _ _ ⟨fun _ => ?_, fun c => absurd (nI_le (a := 90) (by omega) (by omega)) c⟩
      refine C_malf (T := iT) iT_ok (by rw [iT_len]; exact h5) (fun j c hj => by obtain ⟨h1, h2⟩ := iT_at hj; rw [h6 j h1, h2]) (fun e s1 _ et _ => ?_) (fun D s1 et hF hD hP => ⟨fun _ => ?_, fun z => absurd rfl z⟩)
      · have := evT_eq
        unfold evT at this
        rw [et] at this
        exact nomatch this
      · have hev := evT_eq
        unfold evT at hev
        rw [et] at hev
        have hev := Option.some.inj hev
        have d0 : D 0 = iP0 := congrArg Prod.fst hev
        have d1 : D 1 = iP1 := congrArg Prod.snd hev
        refine ⟨Or.inr (Or.inr (Or.inl rfl)), s_copyFrom (k := 1) (k1 := 7) (Or.inl rfl) (Or.inr (Or.inr (Or.inl rfl))) (by decide) (hP 0 (by omega)) (fun s2 f2 p2 => ⟨Or.inr (Or.inr (Or.inr rfl)), s_copyFrom (k := 3) (k1 := 9) (Or.inr (Or.inl rfl)) (Or.inr (Or.inr (Or.inr rfl))) (by decide) (P := D 1) ((hP 1 (by omega)).congr (f2 9 (by decide) (by decide)) (f2 10 (by decide) (by decide))) (fun s3 f3 p3 => ?_)⟩)⟩
        have g : ∀ c, c ≠ 5 → (up2 s3 5 4 0) c = s3 c := fun c hc => by unfold up2; rw [upR_ne _ _ hc]
        refine ⟨?_, ?_, ?_, ?_⟩
        · rw [up2_at, if_pos rfl, if_pos rfl]
        · rw [← d0]; exact p2.congr ((g 1 (by decide)).trans (f3 1 (by decide) (by decide))) ((g 2 (by decide)).trans (f3 2 (by decide) (by decide)))
        · rw [← d1]; exact p3.congr (g 3 (by decide)) (g 4 (by decide))
        · rw [g 11 (by decide), f3 11 (by decide) (by decide), f2 11 (by decide) (by decide), hF.1 11 (by decide) (by omega)]; exact h11
    | succ d ih =>
      intro i s hi h5 h6 h11
      have hc := iT_ch i (by omega)
      refine h61 _ _ ⟨fun c => absurd c (nI_ge (a := i) (b := 90) (by omega) (by omega)), fun _ => ⟨vp_in_nI (show i < 90 by omega) (by decide), ?_⟩⟩
      rw [nI_clamp (by omega), hc.1]
      show wp_X2_add (nI (iT.getD i 0)) s _
      unfold wp_X2_add
      rw [h5, nI_clamp (by omega), nar_chr (by omega)]
      refine ⟨fun c => absurd c (nI_pos (by omega)), fun _ => ⟨fun _ => ⟨vp_in_nI (by omega) (by omega), fun x hx => ?_⟩, fun c => absurd (nI_lt (a := i) (b := 240) (by omega) (by omega)) c⟩⟩
      have e5 : (up2 s 6 i (nI (iT.getD i 0))) 5 4 = nI i := by rw [up2_at, if_neg (by decide)]; exact h5
      rw [hx, a1, e5, a1]
      refine ih (i + 1) _ (by omega) ?_ (fun j hj => ?_) ?_
      · rw [up2_at, if_pos rfl, if_pos rfl]
      · rw [up2_at, if_neg (by decide), up2_at, if_pos rfl]
        by_cases q : j = i
        · rw [if_pos q, q]
        · rw [if_neg q]; exact h6 j (by omega)
      · rw [up2_at, if_neg (by decide), up2_at, if_neg (by decide)]; exact h11
  exact key 90 0 st0 (by omega) rfl (fun j hj => absurd hj (by omega)) rfl
def Rw (g : Nat → Int32) (L : List Nat) : Prop := L.length = 84 ∧ ∀ j, j < 84 → g j = nI (L.getD j 0)
theorem Rw.put {g : Nat → Int32} {L : List Nat} (h : Rw g L) (k v : Nat) (hk : k < 84) : Rw (upd g k (nI v)) (L.set k v) := by
  refine ⟨by rw [List.length_set]; exact h.1, fun j hj => ?_⟩
  rw [upd_at, List.getD_eq_getElem?_getD]
  by_cases q : j = k
  · subst q
    rw [if_pos rfl, List.getElem?_set_self (by rw [h.1]; exact hk)]; rfl
  · rw [if_neg q, List.getElem?_set_ne (Ne.symm q), ← List.getD_eq_getElem?_getD]; exact h.2 j hj
def ck (L : List Nat) (q : Nat) (P : Pl) : Prop := L.getD (42 * q) 0 = P.2.length ∧ L.getD (42 * q + 1) 0 = P.1 ∧ ∀ i, i < P.2.length → ∀ c, c < 5 → L.getD (42 * q + (2 + 5 * i + c)) 0 = fld (P.2.getD i (0, 0, 0, 0, 0)) c
theorem ck.mp {g : Nat → Int32} {L : List Nat} {q : Nat} {P : Pl} (hR : Rw g L) (hq : q < 2) (hl : P.2.length ≤ 8) (h : ck L q P) : MP (fun j => g (42 * q + j)) P := by
  refine ⟨?_, ?_, fun i r hi c hc => ?_⟩
  · show g _ = _
    rw [hR.2 _ (by omega), ← h.1]; rfl
  · show g _ = _
    rw [hR.2 _ (by omega), h.2.1]
  · have hlt := ltl hi
    show g _ = _
    rw [hR.2 _ (by omega), h.2.2 i hlt c hc, List.getD_eq_getElem?_getD, hi]; rfl
theorem s_sets {p i a b c d f : Nat} {g : Nat → Int32} {L : List Nat} {st : St} {Q : St → Prop} (hR : Rw g L) (hp : p < 2) (hi : i < 8) (h : ∀ g', Rw g' (((((L.set (42 * p + 2 + 5 * i) a).set (42 * p + 2 + 5 * i + 1) b).set (42 * p + 2 + 5 * i + 2) c).set (42 * p + 2 + 5 * i + 3) d).set (42 * p + 2 + 5 * i + 4) f) → Q (upR st 20 g')) : wp_X5_sets (nI p) (nI i) (nI a) (nI b) (nI c) (nI d) (nI f) (upR st 20 g) Q := by
  intro x hx
  rw [m42, m5, a2, nI_add] at hx
  subst hx
  have a3 : ∀ n, nI n + (3 : Int32) = nI (n + 3) := fun n => nI_add n 3
  have a4 : ∀ n, nI n + (4 : Int32) = nI (n + 4) := fun n => nI_add n 4
  rw [a1, a2, a3, a4, nI_clamp (by omega), nI_clamp (by omega), nI_clamp (by omega), nI_clamp (by omega), nI_clamp (by omega), up2_upR, up2_upR, up2_upR, up2_upR, up2_upR]
  exact ⟨vp_in_nI (by omega) (by omega), vp_in_nI (by omega) (by omega), vp_in_nI (by omega) (by omega), vp_in_nI (by omega) (by omega), vp_in_nI (by omega) (by omega), h _ (((((hR.put _ a (by omega)).put _ b (by omega)).put _ c (by omega)).put _ d (by omega)).put _ f (by omega))⟩
def iL : List Nat := [2, 1, 0, 3, 15, 15, 15, 1, 255, 8, 255, 15] ++ List.replicate 30 0 ++ [3, 0, 0, 7, 15, 15, 15, 1, 255, 8, 255, 3, 0, 1, 15, 255, 15] ++ List.replicate 25 0
theorem iL0 : ck iL 0 iP0 := by unfold ck; decide +kernel
theorem iL1 : ck iL 1 iP1 := by unfold ck; decide +kernel
theorem i_X5 {st : St} (hC : CC st) : wp_X5_initT (stU st) Inv := by
  refine s_clears (fun g hg => ⟨vp_in_nI (n := 0) (by omega) (by omega), vp_in_nI (n := 1) (by omega) (by omega), ?_⟩)
  have hR : Rw g (List.replicate 84 0) := ⟨by rw [List.length_replicate], fun j hj => by rw [hg j hj, List.getD_eq_getElem?_getD, List.getElem?_replicate_of_lt hj]; rfl⟩
  rw [show (0 : Int32).toNatClampNeg = 0 from rfl, show (1 : Int32).toNatClampNeg = 1 from rfl, up2_upR, up2_upR]
  refine s_sets (p := 0) (i := 0) (a := 0) (b := 3) (c := 15) (d := 15) (f := 15) ((hR.put 0 2 (by omega)).put 1 1 (by omega)) (by omega) (by omega) (fun g1 h1 => ?_)
  refine s_sets (p := 0) (i := 1) (a := 1) (b := 255) (c := 8) (d := 255) (f := 15) h1 (by omega) (by omega) (fun g2 h2 => ⟨vp_in_nI (n := 42) (by omega) (by omega), vp_in_nI (n := 43) (by omega) (by omega), ?_⟩)
  rw [show (42 : Int32).toNatClampNeg = 42 from rfl, show (43 : Int32).toNatClampNeg = 43 from rfl, up2_upR, up2_upR]
  refine s_sets (p := 1) (i := 0) (a := 0) (b := 7) (c := 15) (d := 15) (f := 15) ((h2.put 42 3 (by omega)).put 43 0 (by omega)) (by omega) (by omega) (fun g3 h3 => ?_)
  refine s_sets (p := 1) (i := 1) (a := 1) (b := 255) (c := 8) (d := 255) (f := 3) h3 (by omega) (by omega) (fun g4 h4 => ?_)
  refine s_sets (p := 1) (i := 2) (a := 0) (b := 1) (c := 15) (d := 255) (f := 15) h4 (by omega) (by omega) (fun g5 h5 => ?_)
  have h5 : Rw g5 iL := h5
  refine s_takes (fun g6 hg6 => ?_)
  have hR6 : Rw g6 iL := ⟨h5.1, fun j hj => by rw [hg6 j hj, upR_self]; exact h5.2 j hj⟩
  have e19 : (up2 (upR (upR (stU st) 20 g5) 19 g6) 17 5 0) 19 = g6 := by unfold up2; rw [upR_ne _ _ (by decide), upR_self]
  have eo : ∀ c, c ≠ 19 → c ≠ 17 → c ≠ 20 → (up2 (upR (upR (stU st) 20 g5) 19 g6) 17 5 0) c = stU st c := fun c h1 h2 h3 => by unfold up2; rw [upR_ne _ _ h2, upR_ne _ _ h1, upR_ne _ _ h3]
  have el : ∀ c, c < 17 → (up2 (upR (upR (stU st) 20 g5) 19 g6) 17 5 0) c = st c := fun c h1 => (eo c (by omega) (by omega) (by omega)).trans (if_pos h1)
  have ok0 : okP iP0 := ⟨by decide, by decide, fun i r h => by
    rcases (show i = 0 ∨ i = 1 by have := ltl h; have : iP0.2.length = 2 := rfl; omega) with rfl | rfl
    · have := Option.some.inj h; subst this; exact ⟨by decide, by decide, by decide, by decide, by decide⟩
    · have := Option.some.inj h; subst this; exact ⟨by decide, by decide, by decide, by decide, by decide⟩⟩
  have ok1 : okP iP1 := ⟨by decide, by decide, fun i r h => by
    rcases (show i = 0 ∨ i = 1 ∨ i = 2 by have := ltl h; have : iP1.2.length = 3 := rfl; omega) with rfl | rfl | rfl
    · have := Option.some.inj h; subst this; exact ⟨by decide, by decide, by decide, by decide, by decide⟩
    · have := Option.some.inj h; subst this; exact ⟨by decide, by decide, by decide, by decide, by decide⟩
    · have := Option.some.inj h; subst this; exact ⟨by decide, by decide, by decide, by decide, by decide⟩⟩
  refine ⟨(([], fun p => if p = 0 then iP0 else iP1, []) : AS), ⟨by show 0 ≤ 240; omega, fun j c h => (nil_at h).elim, fun p hp => ?_, by show 0 ≤ 4; omega, fun i x h => (nil_at h).elim⟩, ⟨⟨?_, fun j c hj => (nil_at hj).elim⟩, fun p hp => ?_, ?_, by show 0 ≤ 4; omega, fun i x h => (nil_at h).elim⟩, ⟨?_, fun j c hj => (nil_at hj).elim⟩, fun p hp => ?_, ?_, fun i x h => (nil_at h).elim⟩
  · rcases (show p = 0 ∨ p = 1 by omega) with rfl | rfl
    · exact ok0
    · exact ok1
  · rw [el 5 (by omega)]; exact hC.1
  · rcases (show p = 0 ∨ p = 1 by omega) with rfl | rfl
    · exact hC.2.1.congr (el 1 (by omega)) (el 2 (by omega))
    · exact hC.2.2.1.congr (el 3 (by omega)) (el 4 (by omega))
  · rw [el 11 (by omega)]; exact hC.2.2.2
  · rw [up2_at, if_pos rfl, if_neg (by decide), upR_ne _ _ (by decide), upR_ne _ _ (by decide)]; rfl
  · unfold MPs
    rw [e19]
    rcases (show p = 0 ∨ p = 1 by omega) with rfl | rfl
    · exact ck.mp hR6 (by omega) (by decide) iL0
    · exact ck.mp hR6 (by omega) (by decide) iL1
  · rw [up2_at, if_pos rfl, if_pos rfl]; rfl
