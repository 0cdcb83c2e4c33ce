/-- the saved policies -/
def CH (st : St) (Hs : List (Nat × Pl)) : Prop := st 11 2 = nI Hs.length ∧ Hs.length ≤ 4 ∧ ∀ (i : Nat) (x : Nat × Pl), Hs[i]? = some x → st 12 i = nI x.1 ∧ CP (fun j => st 13 (27 * i + j)) (st 13 (27 * i + 25)) (st 13 (27 * i + 26)) x.2
theorem CH.congr {st s1 : St} {Hs : List (Nat × Pl)} (h : CH st Hs) (h1 : s1 11 2 = st 11 2) (h2 : s1 12 = st 12) (h3 : s1 13 = st 13) : CH s1 Hs := by
  unfold CH; rw [h1, h2, h3]; exact h
def push (Hs : List (Nat × Pl)) (x : Nat × Pl) : List (Nat × Pl) := (if Hs.length = 4 then Hs.tail else Hs) ++ [x]
theorem push_len {Hs : List (Nat × Pl)} {x : Nat × Pl} (h : Hs.length ≤ 4) : (push Hs x).length ≤ 4 ∧ (push Hs x).length = (if Hs.length = 4 then 3 else Hs.length) + 1 := by
  unfold push
  split
  · rename_i q; rw [List.length_append, List.length_tail, q]; simp
  · rename_i q; rw [List.length_append]; simp; omega
theorem s_saveInto {k i : Nat} {P : Pl} {st : St} {Q : St → Prop} (hk : isPol k) (hi : i < 4) (hP : CPs st k P) (h : ∀ s1, (∀ c, c ≠ 13 → s1 c = st c) → (∀ j, j < 27 * i → s1 13 j = st 13 j) → CP (fun j => s1 13 (27 * i + j)) (s1 13 (27 * i + 25)) (s1 13 (27 * i + 26)) P → Q s1) : wp_X1_saveInto k (nI (27 * i)) st Q := by
  have hk13 : k ≠ 13 := by unfold isPol at hk; omega
  have hk14 : k + 1 ≠ 13 := by unfold isPol at hk; omega
  have e0 : (nI (27 * i)).toNatClampNeg = 27 * i := nI_clamp (by omega)
  have e1 : nI (27 * i) + (25 : Int32) = nI (27 * i + 25) := nI_add _ 25
  have e2 : nI (27 * i + 25) + (1 : Int32) = nI (27 * i + 26) := nI_add _ 1
  refine ⟨fun c => absurd c (nI_pos (by omega)), fun _ => ⟨fun _ => ⟨?_, ?_⟩, fun c => absurd (show nI (27 * i) ≤ nI 81 from nI_le (by omega) (by omega)) c⟩⟩
  · rw [e0, z0, z25]
    exact ⟨by decide, nI_pos (by omega), by decide, by omega, by omega⟩
  · rw [e1, e2, e0, z0, z25, nI_clamp (by omega), nI_clamp (by omega)]
    refine ⟨vp_in_nI (by omega) (by omega), vp_in_nI (by omega) (by omega), h _ ?_ ?_ ?_⟩
    · intro c hc; unfold up2; rw [upR_ne _ _ hc, upR_ne _ _ hc, upR_ne _ _ hc]
    · intro j hj
      simp only [up2_at, upR_at, if_true]
      rw [if_neg (by omega), if_neg (by omega), pk_cpy_out (by omega)]
    · simp only [up2_at, upR_at, if_true, if_neg hk13]
      rw [if_neg (by omega)]
      refine CP.ext (R := st (k + 1)) hP (fun j hj => ?_)
      rw [if_neg (by omega), if_neg (by omega), pk_cpy_in (by omega) (by omega)]
      congr 1; omega
theorem s_restoreFrom {k i : Nat} {P : Pl} {st : St} {Q : St → Prop} (hk : isPol k) (hi : i < 4) (hP : CP (fun j => st 13 (27 * i + j)) (st 13 (27 * i + 25)) (st 13 (27 * i + 26)) P) (h : ∀ s1, fr st s1 k → CPs s1 k P → Q s1) : wp_X1_restoreFrom k (nI (27 * i)) st Q := by
  have hk13 : 13 ≠ k := by unfold isPol at hk; omega
  have hk14 : 13 ≠ k + 1 := by unfold isPol at hk; omega
  have e0 : (nI (27 * i)).toNatClampNeg = 27 * i := nI_clamp (by omega)
  have e1 : nI (27 * i) + (25 : Int32) = nI (27 * i + 25) := nI_add _ 25
  have e2 : nI (27 * i + 25) + (1 : Int32) = nI (27 * i + 26) := nI_add _ 1
  refine ⟨fun c => absurd c (nI_pos (by omega)), fun _ => ⟨fun _ => ⟨?_, ?_⟩, fun c => absurd (show nI (27 * i) ≤ nI 81 from nI_le (by omega) (by omega)) c⟩⟩
  · rw [e0, z0, z25]
    exact ⟨nI_pos (by omega), by decide, by decide, by omega, by omega⟩
  · rw [e1, e2, e0, z0, z25, nI_clamp (by omega), nI_clamp (by omega)]
    refine ⟨vp_in_nI (by omega) (by omega), vp_in_nI (by omega) (by omega), h _ ?_ ?_⟩
    · intro c q1 q2; unfold up2; rw [upR_ne _ _ q1, upR_ne _ _ q1, upR_ne _ _ q2]
    · unfold CPs
      have e1 : ∀ f v w, up2 (up2 (upR st (k + 1) f) k 1 v) k 2 w (k + 1) = f := fun f v w => by unfold up2; rw [upR_ne _ _ (by omega), upR_ne _ _ (by omega), upR_self]
      rw [e1]
      simp only [up2_at, upR_at, if_true, if_neg hk13, if_neg hk14]
      rw [if_neg (by omega : ¬ (1 : Nat) = 2)]
      refine CP.ext hP (fun j hj => ?_)
      rw [pk_cpy_in (by omega) (by omega)]
      congr 1
theorem s_forgetOldest {Hs : List (Nat × Pl)} {st : St} {Q : St → Prop} (hH : CH st Hs) (hl : Hs.length = 4) (h : ∀ s1, (∀ c, c ≠ 11 → c ≠ 12 → c ≠ 13 → s1 c = st c) → CH s1 Hs.tail → Q s1) : wp_X0_forgetOldest st Q := by
  refine ⟨by decide, by decide, h _ ?_ ?_⟩
  · intro c h1 h2 h3; unfold up2; rw [upR_ne _ _ h1, upR_ne _ _ h3, upR_ne _ _ h2]
  · rw [show (1 : Int32).toNatClampNeg = 1 by decide, show (0 : Int32).toNatClampNeg = 0 by decide, show (3 : Int32).toNatClampNeg = 3 by decide, show (27 : Int32).toNatClampNeg = 27 by decide, show (81 : Int32).toNatClampNeg = 81 by decide]
    refine ⟨?_, by rw [List.length_tail]; omega, fun i x hx => ?_⟩
    · rw [up2_at, if_pos rfl, if_pos rfl, List.length_tail, hl]; rfl
    · rw [List.getElem?_tail] at hx
      have hi : i + 1 < 4 := by rw [← hl]; exact (List.getElem?_eq_some_iff.mp hx).1
      obtain ⟨q1, q2⟩ := hH.2.2 (i + 1) x hx
      simp only [up2_at, upR_at]
      simp only [if_neg (by decide : ¬ (12 : Nat) = 11), if_neg (by decide : ¬ (12 : Nat) = 13), if_neg (by decide : ¬ (13 : Nat) = 11), if_true]
      have e13 : ∀ f, (upR st 12 f) 13 = st 13 := fun f => upR_ne _ _ (by decide)
      rw [e13]
      refine ⟨?_, ?_⟩
      · rw [pk_cpy_in (by omega) (by omega), show 1 + (i - 0) = i + 1 by omega]; exact q1
      · rw [pk_cpy_in (f := st 13) (g := st 13) (sp := 27) (dp := 0) (n := 81) (j := 27 * i + 25) (by omega) (by omega), pk_cpy_in (f := st 13) (g := st 13) (sp := 27) (dp := 0) (n := 81) (j := 27 * i + 26) (by omega) (by omega)]
        rw [show 27 + (27 * i + 25 - 0) = 27 * (i + 1) + 25 by omega, show 27 + (27 * i + 26 - 0) = 27 * (i + 1) + 26 by omega]
        refine CP.ext q2 (fun j hj => ?_)
        rw [pk_cpy_in (by omega) (by omega)]
        congr 1; omega
theorem s_remember {k p : Nat} {P : Pl} {Hs : List (Nat × Pl)} {st : St} {Q : St → Prop} (hk : isPol k) (hH : CH st Hs) (hP : CPs st k P) (h : ∀ s1, (∀ c, c ≠ 11 → c ≠ 12 → c ≠ 13 → s1 c = st c) → CH s1 (push Hs (p, P)) → Q s1) : wp_X0_remember (nI p) k st Q := by
  have k11 : k ≠ 11 := by unfold isPol at hk; omega
  have k12 : k ≠ 12 := by unfold isPol at hk; omega
  have k13 : k ≠ 13 := by unfold isPol at hk; omega
  have k21 : k + 1 ≠ 11 := by unfold isPol at hk; omega
  have k22 : k + 1 ≠ 12 := by unfold isPol at hk; omega
  have k23 : k + 1 ≠ 13 := by unfold isPol at hk; omega
  intro P12 h12
  have key : ∀ (s0 : St) (Hs0 : List (Nat × Pl)), (∀ c, c ≠ 11 → c ≠ 12 → c ≠ 13 → s0 c = st c) → CH s0 Hs0 → Hs0.length < 4 → Hs0 ++ [(p, P)] = push Hs (p, P) → P12 s0 := by
    intro s0 Hs0 hf hH0 hl hp
    refine h12 s0 ⟨?_, ?_⟩
    · rw [hH0.1]; exact vp_in_nI hl (by omega)
    · rw [hH0.1, nI_clamp (by omega), up2_at, if_neg (by decide), hH0.1, show nI Hs0.length * (27 : Int32) = nI (27 * Hs0.length) by rw [show (27 : Int32) = nI 27 from rfl, pk_mul, Nat.mul_comm]]
      have hP0 : CPs (up2 s0 12 Hs0.length (nI p)) k P := hP.congr (by unfold up2; rw [upR_ne _ _ k12, hf k k11 k12 k13]) (by unfold up2; rw [upR_ne _ _ k22, hf _ k21 k22 k23])
      refine s_saveInto hk hl hP0 (fun s1 f1 f2 f3 => h _ ?_ ?_)
      · intro c q1 q2 q3
        unfold up2; rw [upR_ne _ _ q1, f1 c q3]; unfold up2; rw [upR_ne _ _ q2, hf c q1 q2 q3]
      · rw [← hp]
        have e11 : s1 11 2 = nI Hs0.length := by rw [f1 11 (by decide)]; unfold up2; rw [upR_ne _ _ (by decide)]; exact hH0.1
        have e12 : s1 12 = upd (s0 12) Hs0.length (nI p) := by rw [f1 12 (by decide)]; unfold up2; rw [upR_self]
        refine ⟨?_, by rw [List.length_append]; simp; omega, fun i x hx => ?_⟩
        · rw [up2_at, if_pos rfl, if_pos rfl, e11, nI_1, List.length_append]; rfl
        · have g12 : ∀ v, up2 s1 11 2 v 12 = s1 12 := fun v => by unfold up2; rw [upR_ne _ _ (by decide)]
          have g13 : ∀ v, up2 s1 11 2 v 13 = s1 13 := fun v => by unfold up2; rw [upR_ne _ _ (by decide)]
          rw [g12, g13, e12]
          by_cases hi : i < Hs0.length
          · rw [List.getElem?_append_left hi] at hx
            obtain ⟨q1, q2⟩ := hH0.2.2 i x hx
            have e13 : ∀ j, j < 27 * Hs0.length → s1 13 j = s0 13 j := fun j hj => by rw [f2 j hj]; unfold up2; rw [upR_ne _ _ (by decide)]
            refine ⟨by rw [upd_at, if_neg (by omega)]; exact q1, ?_⟩
            rw [e13 _ (by omega), e13 _ (by omega)]
            exact CP.ext q2 (fun j hj => e13 _ (by omega))
          · rw [List.getElem?_append_right (by omega)] at hx
            have hz : i - Hs0.length < 1 := (List.getElem?_eq_some_iff.mp hx).1
            have hi0 : i = Hs0.length := by omega
            subst hi0
            rw [Nat.sub_self] at hx
            cases hx
            exact ⟨by rw [upd_at, if_pos rfl], f3⟩
  refine ⟨fun c => ?_, fun c => ?_⟩
  · rw [hH.1] at c
    have hl : Hs.length < 4 := (nI_ltI (by have := hH.2.1; omega) (by omega)).mp c
    exact key st Hs (fun _ _ _ _ => rfl) hH hl (by unfold push; rw [if_neg (by omega)])
  · rw [hH.1] at c
    have hl : Hs.length = 4 := by
      have := hH.2.1
      rcases Nat.lt_or_ge Hs.length 4 with q | q
      · exact absurd (nI_lt (b := 4) q (by omega)) c
      · omega
    refine s_forgetOldest hH hl (fun s1 f1 f2 => key s1 Hs.tail f1 f2 (by rw [List.length_tail]; omega) (by unfold push; rw [if_pos hl]))
theorem s_recall {k p : Nat} {P : Pl} {Hs : List (Nat × Pl)} {st : St} {Q : St → Prop} (hk : isPol k) (hH : CH st (Hs ++ [(p, P)])) (h : ∀ s1, (∀ c, c ≠ 11 → c ≠ k → c ≠ k + 1 → s1 c = st c) → CH s1 Hs → CPs s1 k P → Q s1) : wp_X0_recallInto k st Q := by
  have k11 : 11 ≠ k := by unfold isPol at hk; omega
  have k12 : 12 ≠ k := by unfold isPol at hk; omega
  have k13 : 13 ≠ k := by unfold isPol at hk; omega
  have k21 : 11 ≠ k + 1 := by unfold isPol at hk; omega
  have k22 : 12 ≠ k + 1 := by unfold isPol at hk; omega
  have k23 : 13 ≠ k + 1 := by unfold isPol at hk; omega
  obtain ⟨h1, h2, h3⟩ := hH
  rw [List.length_append] at h1 h2
  have h1 : st 11 2 = nI (Hs.length + 1) := h1
  have h2 : Hs.length + 1 ≤ 4 := h2
  refine ⟨fun c => absurd (by rw [h1] at c; exact c) (nI_nle (by omega) (by omega)), fun _ => ?_⟩
  rw [h1, nI_pred, up2_at, if_pos rfl, if_pos rfl, show nI Hs.length * (27 : Int32) = nI (27 * Hs.length) by rw [show (27 : Int32) = nI 27 from rfl, pk_mul, Nat.mul_comm]]
  obtain ⟨q1, q2⟩ := h3 Hs.length (p, P) (by rw [List.getElem?_append_right (Nat.le_refl _), Nat.sub_self]; rfl)
  have g13 : ∀ v, up2 st 11 2 v 13 = st 13 := fun v => by unfold up2; rw [upR_ne _ _ (by decide)]
  refine s_restoreFrom hk (by omega) (by rw [g13]; exact q2) (fun s1 f1 f2 => h s1 ?_ ?_ f2)
  · intro c q1 q2 q3; rw [f1 c q2 q3]; unfold up2; rw [upR_ne _ _ q1]
  · refine ⟨?_, by omega, fun i x hx => ?_⟩
    · rw [f1 11 k11 k21, up2_at, if_pos rfl, if_pos rfl]
    · have hi := (List.getElem?_eq_some_iff.mp hx).1
      rw [f1 12 k12 k22, f1 13 k13 k23, g13]
      have g12 : ∀ v, up2 st 11 2 v 12 = st 12 := fun v => by unfold up2; rw [upR_ne _ _ (by decide)]
      rw [g12]
      exact h3 i x (by rw [List.getElem?_append_left hi]; exact hx)
