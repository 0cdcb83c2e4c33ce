def CPs (st : St) (k : Nat) (P : Pl) : Prop := CP (st (k + 1)) (st k 1) (st k 2) P
def fr (st s1 : St) (k : Nat) : Prop := ∀ c, c ≠ k → c ≠ k + 1 → s1 c = st c
theorem CPs.congr {st s1 : St} {k : Nat} {P : Pl} (h : CPs st k P) (h1 : s1 k = st k) (h2 : s1 (k + 1) = st (k + 1)) : CPs s1 k P := by unfold CPs; rw [h1, h2]; exact h
theorem s_wbi {x0 x1 x2 : Int32} {st : St} {Q : Int32 → St → Prop} (h : Q (wbi x0 x2 x1) st) : wp_X1_withBitInserted x0 x1 x2 st Q := fun x e => by subst e; exact h
theorem s_wbd {x0 x1 : Int32} {st : St} {Q : Int32 → St → Prop} (h : Q (wbd x0 x1) st) : wp_X1_withBitDropped x0 x1 st Q := fun x e => by subst e; exact h
theorem lit_in {n N : Nat} (x : Int32) (hx : x = nI n) (h : n < N) (hN : N < 2 ^ 31) : vp_in x N := by rw [hx]; exact vp_in_nI h hN
theorem lit_cl {n : Nat} (x : Int32) (hx : x = nI n) (h : n < 2 ^ 31) : x.toNatClampNeg = n := by rw [hx]; exact nI_clamp h
theorem c24 : (24 : Int32).toNatClampNeg = 24 := by decide
theorem v24 : vp_in (24 : Int32) 25 := lit_in (n := 24) _ rfl (by omega) (by omega)
def insB (e j : Nat) : Int32 := if j < 24 then 1 else if e = 1 then 1 else 0
def insF (f : Nat → Int32) (n e i : Nat) : Nat → Int32 := fun j => if j < i then wbi (f j) (insB e j) (nI n) else f j
theorem insF_0 (f : Nat → Int32) (n e : Nat) : insF f n e 0 = f := by funext j; unfold insF; rw [if_neg (by omega)]
theorem insF_s (f : Nat → Int32) (n e i : Nat) : upd (insF f n e i) i (wbi (f i) (insB e i) (nI n)) = insF f n e (i + 1) := by
  funext j; unfold upd insF
  by_cases h : j = i
  · subst h; rw [if_pos rfl, if_pos (by omega)]
  · rw [if_neg h]
    by_cases h2 : j < i
    · rw [if_pos h2, if_pos (by omega)]
    · rw [if_neg h2, if_neg (by omega)]
theorem insF_at (f : Nat → Int32) (n e i : Nat) : insF f n e i i = f i := by unfold insF; rw [if_neg (by omega)]
theorem s_insertRule {k n e : Nat} {P : Pl} {st : St} {Q : St → Prop} (hP : CPs st k P) (hl : P.2.length < 8) (hn : n ≤ P.2.length) (he : e < 2) (h : ∀ s1, fr st s1 k → CPs s1 k (P.1, P.2.insertIdx n (allR e)) → Q s1) : wp_X1_insertRule k (nI n) (nI e) st Q := by
  intro P2 P55 h2 h55
  have fin : ∀ b : Int32, b = insB e 24 → P55 24 (st (k + 1) 24) (nI n) b (upR st (k + 1) (insF (st (k + 1)) n e 24)) := by
    intro b hb
    refine h55 _ _ _ _ _ (s_wbi ⟨v24, ?_⟩)
    rw [c24, up2_upR, hb, insF_s]
    refine h _ ?_ ?_
    · intro c h1 h2
      unfold up2; rw [upR_ne _ _ h1, upR_ne _ _ h2]
    · unfold CPs
      have e1 : up2 (upR st (k + 1) (insF (st (k + 1)) n e 25)) k 1 (upR st (k + 1) (insF (st (k + 1)) n e 25) k 1 + 1) (k + 1) = insF (st (k + 1)) n e 25 := by
        unfold up2; rw [upR_ne _ _ (by omega), upR_self]
      rw [e1, up2_at, up2_at, if_pos rfl, if_pos rfl, if_pos rfl, if_neg (by omega), upR_at, if_neg (by omega), upR_at, if_neg (by omega)]
      refine hP.ins (by omega) hn he (by rw [hP.1, nI_1]) (fun j hj => ⟨insB e j, ?_, ?_, ?_⟩)
      · unfold insB; split
        · exact Or.inr rfl
        · split
          · exact Or.inr rfl
          · exact Or.inl rfl
      · unfold insB
        by_cases h1 : j < 24
        · rw [if_pos h1]; simp [h1]
        · rw [if_neg h1]
          by_cases h3 : e = 1
          · rw [if_pos h3]; simp [h3]
          · rw [if_neg h3]; simp [h1, h3]
      · unfold insF; rw [if_pos hj]
  have key : ∀ d i, i + d = 24 → P2 (nI i) (upR st (k + 1) (insF (st (k + 1)) n e i)) := by
    intro d
    induction d with
    | zero =>
      intro i hi
      have : i = 24 := by omega
      subst this
      refine h2 _ _ ⟨fun _ => ⟨v24, ?_⟩, fun c => absurd (by decide) c⟩
      rw [c24, upR_at, if_pos rfl, insF_at]
      refine ⟨fun c => fin 1 ?_, fun c => fin 0 ?_⟩
      · have : e = 1 := (nI_eq (by omega) (by omega)).mp c
        subst this; rfl
      · have : ¬ e = 1 := fun z => c (by rw [z]; rfl)
        unfold insB; rw [if_neg (by omega), if_neg this]
    | succ d ih =>
      intro i hi
      refine h2 _ _ ⟨fun c => absurd c (nI_ge (a := i) (b := 24) (by omega) (by omega)), fun _ => ⟨vp_in_nI (by omega) (by omega), s_wbi ⟨vp_in_nI (by omega) (by omega), fun x hx => ?_⟩⟩⟩
      rw [nI_clamp (by omega), up2_upR, hx, nI_1, upR_at, if_pos rfl, insF_at]
      have e1 : (1 : Int32) = insB e i := by unfold insB; rw [if_pos (by omega)]
      rw [show wbi (st (k + 1) i) 1 (nI n) = wbi (st (k + 1) i) (insB e i) (nI n) by rw [← e1], insF_s]
      exact ih (i + 1) (by omega)
  have h0 := key 24 0 (by omega)
  rw [insF_0, upR_id] at h0
  exact h0
def drF (g : Int32 → Int32) (f : Nat → Int32) (i : Nat) : Nat → Int32 := fun j => if j < i then g (f j) else f j
theorem drF_0 (g : Int32 → Int32) (f : Nat → Int32) : drF g f 0 = f := by funext j; unfold drF; rw [if_neg (by omega)]
theorem drF_s (g : Int32 → Int32) (f : Nat → Int32) (i : Nat) : upd (drF g f i) i (g (f i)) = drF g f (i + 1) := by
  funext j; unfold upd drF
  by_cases h : j = i
  · subst h; rw [if_pos rfl, if_pos (by omega)]
  · rw [if_neg h]
    by_cases h2 : j < i
    · rw [if_pos h2, if_pos (by omega)]
    · rw [if_neg h2, if_neg (by omega)]
theorem drF_at (g : Int32 → Int32) (f : Nat → Int32) (i : Nat) : drF g f i i = f i := by unfold drF; rw [if_neg (by omega)]
theorem s_dropRule {k n : Nat} {P : Pl} {st : St} {Q : St → Prop} (hP : CPs st k P) (hl : P.2.length ≤ 8) (hn : n < P.2.length) (h : ∀ s1, fr st s1 k → CPs s1 k (P.1, P.2.eraseIdx n) → Q s1) : wp_X1_dropRule k (nI n) st Q := by
  intro P2 h2
  have key : ∀ d i, i + d = 25 → P2 (nI i) (upR st (k + 1) (drF (fun x => wbd x (nI n)) (st (k + 1)) i)) := by
    intro d
    induction d with
    | zero =>
      intro i hi
      have : i = 25 := by omega
      subst this
      refine h2 _ _ ⟨fun _ => h _ ?_ ?_, fun c => absurd (by decide) c⟩
      · intro c h1 h2
        unfold up2; rw [upR_ne _ _ h1, upR_ne _ _ h2]
      · unfold CPs
        have e1 : ∀ v, up2 (upR st (k + 1) (drF (fun x => wbd x (nI n)) (st (k + 1)) 25)) k 1 v (k + 1) = drF (fun x => wbd x (nI n)) (st (k + 1)) 25 := by
          intro v; unfold up2; rw [upR_ne _ _ (by omega), upR_self]
        rw [e1, up2_at, up2_at, if_pos rfl, if_pos rfl, if_pos rfl, if_neg (by omega), upR_at, if_neg (by omega), upR_at, if_neg (by omega)]
        refine hP.drop hl hn ?_ (fun j hj => by unfold drF; rw [if_pos hj])
        rw [hP.1]
        have := nI_pred (P.2.length - 1)
        rwa [show P.2.length - 1 + 1 = P.2.length by omega] at this
    | succ d ih =>
      intro i hi
      refine h2 _ _ ⟨fun c => absurd c (nI_ge (a := i) (b := 25) (by omega) (by omega)), fun _ => ⟨vp_in_nI (by omega) (by omega), s_wbd ⟨vp_in_nI (by omega) (by omega), fun x hx => ?_⟩⟩⟩
      rw [nI_clamp (by omega), up2_upR, hx, nI_1, upR_at, if_pos rfl, drF_at]
      have e1 := drF_s (fun x => wbd x (nI n)) (st (k + 1)) i
      rw [e1]
      exact ih (i + 1) (by omega)
  have h0 := key 25 0 (by omega)
  rw [drF_0, upR_id] at h0
  exact h0
theorem s_shiftRule {k n t : Nat} {P : Pl} {r : Rl} {st : St} {Q : St → Prop} (hP : CPs st k P) (hl : P.2.length ≤ 8) (hr : P.2[n]? = some r) (ht : t < P.2.length) (h : ∀ s1, fr st s1 k → CPs s1 k (P.1, (P.2.eraseIdx n).insertIdx t r) → Q s1) : wp_X1_shiftRule k (nI n) (nI t) st Q := by
  intro P2 h2
  have key : ∀ d i, i + d = 25 → P2 (nI i) (upR st (k + 1) (drF (fun x => wbi (wbd x (nI n)) ((x >>> (nI n &&& 31)) &&& 1) (nI t)) (st (k + 1)) i)) := by
    intro d
    induction d with
    | zero =>
      intro i hi
      have : i = 25 := by omega
      subst this
      refine h2 _ _ ⟨fun _ => h _ ?_ ?_, fun c => absurd (by decide) c⟩
      · intro c h1 h2
        rw [upR_ne _ _ h2]
      · unfold CPs
        rw [upR_self, upR_at, if_neg (by omega), upR_at, if_neg (by omega)]
        exact hP.move hl hr ht (fun j hj => by unfold drF; rw [if_pos hj])
    | succ d ih =>
      intro i hi
      refine h2 _ _ ⟨fun c => absurd c (nI_ge (a := i) (b := 25) (by omega) (by omega)), fun _ => ⟨vp_in_nI (by omega) (by omega), fun b hb => ⟨vp_in_nI (by omega) (by omega), s_wbd (s_wbi ⟨vp_in_nI (by omega) (by omega), fun x hx => ?_⟩)⟩⟩⟩
      rw [nI_clamp (by omega), upR_at, if_pos rfl, drF_at] at hb
      rw [nI_clamp (by omega), up2_upR, hx, nI_1, upR_at, if_pos rfl, drF_at, hb]
      have e1 := drF_s (fun x => wbi (wbd x (nI n)) ((x >>> (nI n &&& 31)) &&& 1) (nI t)) (st (k + 1)) i
      rw [e1]
      exact ih (i + 1) (by omega)
  have h0 := key 25 0 (by omega)
  rw [drF_0, upR_id] at h0
  exact h0
