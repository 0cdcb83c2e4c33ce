def setA (A : AS) (p : Nat) (P : Pl) : AS := (A.1, fun x => if x = p then P else A.2.1 x, push A.2.2 (p, A.2.1 p))
theorem push_get {Hs : List (Nat × Pl)} {x y : Nat × Pl} {i : Nat} (h : (push Hs x)[i]? = some y) : y = x ∨ y ∈ Hs := by
  have := List.mem_of_getElem? h
  unfold push at this
  rcases List.mem_append.mp this with q | q
  · split at q
    · exact Or.inr (List.mem_of_mem_tail q)
    · exact Or.inr q
  · exact Or.inl (List.mem_singleton.mp q)
theorem okA.set {A : AS} {p : Nat} {P : Pl} (h : okA A) (hp : p < 2) (hP : okP P) : okA (setA A p P) := by
  refine ⟨h.1, h.2.1, fun x hx => ?_, (push_len h.2.2.2.1).1, fun i x hx => ?_⟩
  · show okP (if x = p then P else A.2.1 x)
    split
    · exact hP
    · exact h.2.2.1 x hx
  · rcases push_get hx with e | e
    · subst e; exact ⟨hp, h.2.2.1 p hp⟩
    · obtain ⟨j, hj⟩ := List.getElem?_of_mem e
      exact h.2.2.2.2 j x hj
theorem CI.edit {st s1 s2 : St} {A : AS} {p : Nat} {P : Pl} (hC : CI st A) (hp : p < 2) (f1 : ∀ c, c ≠ 11 → c ≠ 12 → c ≠ 13 → s1 c = st c) (hH : CH s1 (push A.2.2 (p, A.2.1 p))) (f2 : fr s1 s2 (2 * p + 1)) (hP : CPs s2 (2 * p + 1) P) : CI s2 (setA A p P) ∧ ∀ c, 17 ≤ c → s2 c = st c := by
  have g : ∀ c, c ≠ 11 → c ≠ 12 → c ≠ 13 → c ≠ 2 * p + 1 → c ≠ 2 * p + 2 → s2 c = st c := fun c a b d e f => by rw [f2 c e f, f1 c a b d]
  refine ⟨⟨?_, fun x hx => ?_, ?_⟩, fun c hc => g c (by omega) (by omega) (by omega) (by omega) (by omega)⟩
  · rw [g 5 (by omega) (by omega) (by omega) (by omega) (by omega), g 6 (by omega) (by omega) (by omega) (by omega) (by omega)]
    exact hC.1
  · show CPs s2 (2 * x + 1) (if x = p then P else A.2.1 x)
    by_cases e : x = p
    · subst e; rw [if_pos rfl]; exact hP
    · rw [if_neg e]
      exact (hC.2.1 x hx).congr (g _ (by omega) (by omega) (by omega) (by omega) (by omega)) (g _ (by omega) (by omega) (by omega) (by omega) (by omega))
  · exact hH.congr (by rw [f2 11 (by omega) (by omega)]) (f2 12 (by omega) (by omega)) (f2 13 (by omega) (by omega))
def MHf (f21 f19 : Nat → Int32) (Hs : List (Nat × Pl)) : Prop := ∀ (i : Nat) (x : Nat × Pl), Hs[i]? = some x → MP (fun j => f21 (84 * i + 42 * x.1 + j)) x.2 ∧ ∀ j, j < 42 → f21 (84 * i + 42 * (1 - x.1) + j) = if i + 1 < Hs.length then f21 (84 * (i + 1) + 42 * (1 - x.1) + j) else f19 (42 * (1 - x.1) + j)
theorem MP.ext {f f' : Nat → Int32} {P : Pl} (h : MP f P) (hl : P.2.length ≤ 8) (he : ∀ j, j < 42 → f' j = f j) : MP f' P := by
  refine ⟨by rw [he 0 (by omega)]; exact h.1, by rw [he 1 (by omega)]; exact h.2.1, fun i r hr c hc => ?_⟩
  have := ltl hr
  rw [he _ (by omega)]; exact h.2.2 i r hr c hc
theorem MHf.shift {f g f19 : Nat → Int32} {Hs : List (Nat × Pl)} (h : MHf f f19 Hs) (hl : Hs.length = 4) (hok : ∀ (i : Nat) (x : Nat × Pl), Hs[i]? = some x → x.1 < 2 ∧ okP x.2) (hg : ∀ j, j < 252 → g j = f (j + 84)) : MHf g f19 Hs.tail := by
  intro i x hx
  rw [List.getElem?_tail] at hx
  have hi : i + 1 < 4 := by rw [← hl]; exact (List.getElem?_eq_some_iff.mp hx).1
  obtain ⟨o1, o2⟩ := hok (i + 1) x hx
  obtain ⟨h1, h2⟩ := h (i + 1) x hx
  refine ⟨h1.ext o2.2.1 (fun j hj => ?_), fun j hj => ?_⟩
  · show g (84 * i + 42 * x.1 + j) = f (84 * (i + 1) + 42 * x.1 + j)
    rw [hg _ (by omega)]; congr 1; omega
  · have e := h2 j hj
    rw [hg _ (by omega), show 84 * i + 42 * (1 - x.1) + j + 84 = 84 * (i + 1) + 42 * (1 - x.1) + j by omega, e, List.length_tail, hl]
    by_cases q : i + 1 + 1 < 4
    · rw [if_pos q, if_pos (by omega), hg _ (by omega)]; congr 1; omega
    · rw [if_neg q, if_neg (by omega)]
def cpF (g h : Nat → Int32) (e i : Nat) : Nat → Int32 := fun j => if 84 * e ≤ j ∧ j < 84 * e + i then h (j - 84 * e) else g j
theorem MHf.push {g f19 g19 : Nat → Int32} {Hs : List (Nat × Pl)} {p : Nat} {P : Pl} (h : MHf g f19 Hs) (hl : Hs.length < 4) (hok : ∀ (i : Nat) (x : Nat × Pl), Hs[i]? = some x → x.1 < 2 ∧ okP x.2) (hp : p < 2) (hP : MP (fun j => f19 (42 * p + j)) P) (hPl : P.2.length ≤ 8) (hg : ∀ j, j < 42 → g19 (42 * (1 - p) + j) = f19 (42 * (1 - p) + j)) : MHf (cpF g f19 Hs.length 84) g19 (Hs ++ [(p, P)]) := by
  intro i x hx
  have hlen : (Hs ++ [(p, P)]).length = Hs.length + 1 := by rw [List.length_append]; rfl
  rw [hlen]
  by_cases hi : i < Hs.length
  · rw [List.getElem?_append_left hi] at hx
    obtain ⟨o1, o2⟩ := hok i x hx
    obtain ⟨h1, h2⟩ := h i x hx
    refine ⟨h1.ext o2.2.1 (fun j hj => ?_), fun j hj => ?_⟩
    · show cpF g f19 Hs.length 84 (84 * i + 42 * x.1 + j) = _
      unfold cpF; rw [if_neg (by omega)]
    · rw [if_pos (by omega)]
      have e := h2 j hj
      unfold cpF
      rw [if_neg (by omega), e]
      by_cases q : i + 1 < Hs.length
      · rw [if_pos q, if_neg (by omega)]
      · rw [if_neg q, if_pos (by omega)]; congr 1; omega
  · rw [List.getElem?_append_right (by omega)] at hx
    have hz : i - Hs.length < 1 := (List.getElem?_eq_some_iff.mp hx).1
    have hi0 : i = Hs.length := by omega
    subst hi0
    rw [Nat.sub_self] at hx
    cases hx
    refine ⟨hP.ext hPl (fun j hj => ?_), fun j hj => ?_⟩
    · show cpF g f19 Hs.length 84 (84 * Hs.length + 42 * p + j) = f19 (42 * p + j)
      unfold cpF; rw [if_pos (by omega)]; congr 1; omega
    · rw [if_neg (by omega)]
      show cpF g f19 Hs.length 84 (84 * Hs.length + 42 * (1 - p) + j) = g19 (42 * (1 - p) + j)
      rw [hg j hj]
      unfold cpF; rw [if_pos (by omega)]; congr 1; omega
theorem m84 (p : Nat) : (84 : Int32) * nI p = nI (84 * p) := pk_mul 84 p
theorem M_edit {A : AS} {st : St} {Q : St → Prop} (hM : MS st A) (ho : okA A) (h : ∀ s1, (∀ c, c ≠ 17 → c ≠ 21 → s1 c = st c) → s1 17 0 = st 17 0 → (∀ p P, p < 2 → s1 17 5 = nI (push A.2.2 (p, P)).length) → (∀ p g19, p < 2 → (∀ j, j < 42 → g19 (42 * (1 - p) + j) = st 19 (42 * (1 - p) + j)) → MHf (s1 21) g19 (push A.2.2 (p, A.2.1 p))) → Q s1) : wp_X5_edit st Q := by
  have hH : MHf (st 21) (st 19) A.2.2 := hM.2.2.2
  have hok := ho.2.2.2.2
  intro P10 P50 h10 h50
  have ph2 : ∀ (s0 : St) (Hs : List (Nat × Pl)), (∀ c, c ≠ 17 → c ≠ 21 → s0 c = st c) → s0 17 0 = st 17 0 → s0 17 5 = nI Hs.length → Hs.length < 4 → MHf (s0 21) (st 19) Hs → (∀ (i : Nat) (x : Nat × Pl), Hs[i]? = some x → x.1 < 2 ∧ okP x.2) → (∀ x, push A.2.2 x = Hs ++ [x]) → P50 0 s0 := by
    intro s0 Hs f0 e0 e5 hl hH0 hok0 hpush
    have e19 : s0 19 = st 19 := f0 19 (by decide) (by decide)
    have key : ∀ d i, i + d = 84 → P50 (nI i) (upR s0 21 (cpF (s0 21) (s0 19) Hs.length i)) := by
      intro d
      induction d with
      | zero =>
        intro i hi
        have : i = 84 := by omega
        subst this
        refine h50 _ _ ⟨fun _ => ?_, fun c => absurd (by decide) c⟩
        have q17 : (upR s0 21 (cpF (s0 21) (s0 19) Hs.length 84)) 17 = s0 17 := upR_ne _ _ (by decide)
        refine h _ (fun c a b => ?_) ?_ (fun p P hp => ?_) (fun p g19 hp hg => ?_)
        · unfold up2; rw [upR_ne _ _ a, upR_ne _ _ b, f0 c a b]
        · rw [up2_at, if_pos rfl, if_neg (by decide), q17]; exact e0
        · rw [up2_at, if_pos rfl, if_pos rfl, q17, e5, a1, hpush, List.length_append]; rfl
        · have q21 : ∀ v, up2 (upR s0 21 (cpF (s0 21) (s0 19) Hs.length 84)) 17 5 v 21 = cpF (s0 21) (s0 19) Hs.length 84 := fun v => by
            unfold up2; rw [upR_ne _ _ (by decide), upR_self]
          rw [q21, hpush, e19]
          exact hH0.push hl hok0 hp (hM.2.1 p hp) (ho.2.2.1 p hp).2.1 hg
      | succ d ih =>
        intro i hi
        have q17 : (upR s0 21 (cpF (s0 21) (s0 19) Hs.length i)) 17 5 = nI Hs.length := by rw [upR_at, if_neg (by decide)]; exact e5
        have q19 : (upR s0 21 (cpF (s0 21) (s0 19) Hs.length i)) 19 = s0 19 := upR_ne _ _ (by decide)
        refine h50 _ _ ?_
        rw [q17, m84, nI_add, nI_clamp (by omega), nI_clamp (by omega), q19]
        refine ⟨fun c => absurd c (nI_ge (a := i) (b := 84) (by omega) (by omega)), fun _ => ⟨vp_in_nI (by omega) (by omega), vp_in_nI (by omega) (by omega), fun y hy => ?_⟩⟩
        rw [hy, a1, up2_upR]
        have e : upd (cpF (s0 21) (s0 19) Hs.length i) (84 * Hs.length + i) (s0 19 i) = cpF (s0 21) (s0 19) Hs.length (i + 1) := by
          funext j; unfold upd cpF
          by_cases q : j = 84 * Hs.length + i
          · subst q; rw [if_pos rfl, if_pos (by omega)]; congr 1; omega
          · rw [if_neg q]
            by_cases q2 : 84 * Hs.length ≤ j ∧ j < 84 * Hs.length + i
            · rw [if_pos q2, if_pos (by omega)]
            · rw [if_neg q2, if_neg (by omega)]
        rw [e]
        exact ih (i + 1) (by omega)
    have h0 := key 84 0 (by omega)
    have e : cpF (s0 21) (s0 19) Hs.length 0 = s0 21 := by funext j; unfold cpF; rw [if_neg (by omega)]
    rw [e, upR_id] at h0
    exact h0
  rw [hM.2.2.1]
  have hle := ho.2.2.2.1
  refine ⟨fun c => ?_, fun c => ?_⟩
  · have c : A.2.2.length = 4 := (nI_eq (b := 4) (by omega) (by omega)).mp c
    have key : ∀ d i, i + d = 252 → P10 (nI i) (upR st 21 (fun j => if j < i then st 21 (j + 84) else st 21 j)) := by
      intro d
      induction d with
      | zero =>
        intro i hi
        have : i = 252 := by omega
        subst this
        refine h10 _ _ ⟨fun _ => ?_, fun c => absurd (by decide) c⟩
        have q17 : (upR st 21 (fun j => if j < 252 then st 21 (j + 84) else st 21 j)) 17 = st 17 := upR_ne _ _ (by decide)
        refine ph2 _ A.2.2.tail (fun c a b => ?_) ?_ ?_ (by rw [List.length_tail]; omega) ?_ (fun i x hx => ?_) (fun x => by unfold push; rw [if_pos c])
        · unfold up2; rw [upR_ne _ _ a, upR_ne _ _ b]
        · rw [up2_at, if_pos rfl, if_neg (by decide), q17]
        · rw [up2_at, if_pos rfl, if_pos rfl, q17, hM.2.2.1, List.length_tail, c]; rfl
        · have q21 : ∀ v, up2 (upR st 21 (fun j => if j < 252 then st 21 (j + 84) else st 21 j)) 17 5 v 21 = fun j => if j < 252 then st 21 (j + 84) else st 21 j := fun v => by
            unfold up2; rw [upR_ne _ _ (by decide), upR_self]
          rw [q21]
          exact hH.shift c hok (fun j hj => if_pos hj)
        · rw [List.getElem?_tail] at hx; exact hok _ x hx
      | succ d ih =>
        intro i hi
        refine h10 _ _ ?_
        rw [show nI i + (84 : Int32) = nI (i + 84) from nI_add i 84, nI_clamp (by omega), nI_clamp (by omega)]
        refine ⟨fun c => absurd c (nI_ge (a := i) (b := 252) (by omega) (by omega)), fun _ => ⟨vp_in_nI (by omega) (by omega), vp_in_nI (by omega) (by omega), fun y hy => ?_⟩⟩
        rw [hy, a1, up2_upR, upR_self]
        have e : upd (fun j => if j < i then st 21 (j + 84) else st 21 j) i ((fun j => if j < i then st 21 (j + 84) else st 21 j) (i + 84)) = fun j => if j < i + 1 then st 21 (j + 84) else st 21 j := by
          funext j; unfold upd
          by_cases q : j = i
          · subst q; rw [if_pos rfl, if_pos (by omega)]
            show (if j + 84 < j then _ else st 21 (j + 84)) = _
            rw [if_neg (by omega)]
          · rw [if_neg q]
            show (if j < i then _ else _) = _
            by_cases q2 : j < i
            · rw [if_pos q2, if_pos (by omega)]
            · rw [if_neg q2, if_neg (by omega)]
        rw [e]
        exact ih (i + 1) (by omega)
    have h0 := key 252 0 (by omega)
    have e : (fun j => if j < 0 then st 21 (j + 84) else st 21 j) = st 21 := by funext j; rw [if_neg (by omega)]
    rw [e, upR_id] at h0
    exact h0
  · have c : ¬ A.2.2.length = 4 := fun z => c (by rw [z]; rfl)
    exact ph2 st A.2.2 (fun _ _ _ => rfl) rfl hM.2.2.1 (by omega) hH hok (fun x => by unfold push; rw [if_neg c])
/-- behind an edit and a change of one policy's cells -/
theorem MS.edit {st s1 s2 : St} {A : AS} {p : Nat} {P : Pl} (hM : MS st A) (hp : p < 2) (f1 : ∀ c, c ≠ 17 → c ≠ 21 → s1 c = st c) (e0 : s1 17 0 = st 17 0) (e5 : ∀ p P, p < 2 → s1 17 5 = nI (push A.2.2 (p, P)).length) (hH : ∀ p g19, p < 2 → (∀ j, j < 42 → g19 (42 * (1 - p) + j) = st 19 (42 * (1 - p) + j)) → MHf (s1 21) g19 (push A.2.2 (p, A.2.1 p))) (f2 : ∀ c, c ≠ 19 → c ≠ 24 → s2 c = s1 c) (hP : MP (fun j => s2 19 (42 * p + j)) P) (hO : ∀ j, j < 42 → s2 19 (42 * (1 - p) + j) = st 19 (42 * (1 - p) + j)) (ho : okA A) : MS s2 (setA A p P) := by
  refine ⟨?_, fun x hx => ?_, ?_, ?_⟩
  · rw [f2 17 (by decide) (by decide), f2 18 (by decide) (by decide), e0, f1 18 (by decide) (by decide)]; exact hM.1
  · show MP (fun j => s2 19 (42 * x + j)) (if x = p then P else A.2.1 x)
    by_cases e : x = p
    · subst e; rw [if_pos rfl]; exact hP
    · rw [if_neg e]
      have hx1 : x = 1 - p := by omega
      subst hx1
      exact (hM.2.1 _ hx).ext (ho.2.2.1 _ hx).2.1 hO
  · rw [f2 17 (by decide) (by decide)]; exact e5 p _ hp
  · have := hH p (s2 19) hp hO
    rw [← f2 21 (by decide) (by decide)] at this
    exact this
theorem Inv.of2 {s1 s2 : St} {A : AS} (ho : okA A) (hC : CI s1 A) (hf : ∀ c, c < 17 → s2 c = s1 c) (hM : MS s2 A) : Inv s2 :=
  ⟨A, ho, hC.congr (by rw [hf 5 (by decide)]) (hf 6 (by decide)) (fun c hc => hf c (by omega)) (by rw [hf 11 (by decide)]) (hf 12 (by decide)) (hf 13 (by decide)), hM⟩
theorem MS.same {st s1 : St} {A : AS} (h : MS st A) (hf : ∀ c, 17 ≤ c → s1 c = st c) : MS s1 A :=
  h.congr (by rw [hf 17 (by decide)]) (by rw [hf 17 (by decide)]) (hf 18 (by decide)) (hf 19 (by decide)) (hf 21 (by decide))
