theorem MP.ins {w w' : Nat → Int32} {P : Pl} {r e : Nat} (h : MP w P) (hr : r ≤ P.2.length) (h0 : w' 0 = nI (P.2.length + 1)) (h1 : w' 1 = w 1) (hs : ∀ i c, i ≤ P.2.length → i ≠ r → c < 5 → w' (2 + 5 * i + c) = w (2 + 5 * (if i < r then i else i - 1) + c)) (hn : ∀ c, c < 5 → w' (2 + 5 * r + c) = nI (fld (allR e) c)) : MP w' (P.1, P.2.insertIdx r (allR e)) := by
  refine ⟨by rw [h0, List.length_insertIdx_of_le_length hr], by rw [h1]; exact h.2.1, fun i x hx c hc => ?_⟩
  have hi := ltl hx
  rw [List.length_insertIdx_of_le_length hr] at hi
  rw [List.getElem?_insertIdx] at hx
  by_cases q : i < r
  · rw [if_pos q] at hx
    rw [hs i c (by omega) (by omega) hc, if_pos q]; exact h.2.2 i x hx c hc
  · rw [if_neg q] at hx
    by_cases q2 : i = r
    · rw [if_pos q2, if_pos (by omega)] at hx
      cases hx
      rw [q2]; exact hn c hc
    · rw [if_neg q2] at hx
      rw [hs i c (by omega) q2 hc, if_neg q]; exact h.2.2 (i - 1) x hx c hc
theorem MP.del {w w' : Nat → Int32} {P : Pl} {r : Nat} (h : MP w P) (hr : r < P.2.length) (h0 : w' 0 = nI (P.2.length - 1)) (h1 : w' 1 = w 1) (hs : ∀ i c, i + 1 < P.2.length → c < 5 → w' (2 + 5 * i + c) = w (2 + 5 * (if i < r then i else i + 1) + c)) : MP w' (P.1, P.2.eraseIdx r) := by
  refine ⟨by rw [h0, List.length_eraseIdx_of_lt hr], by rw [h1]; exact h.2.1, fun i x hx c hc => ?_⟩
  have hi := ltl hx
  rw [List.length_eraseIdx_of_lt hr] at hi
  rw [List.getElem?_eraseIdx] at hx
  rw [hs i c (by omega) hc]
  by_cases q : i < r
  · rw [if_pos q] at hx ⊢; exact h.2.2 i x hx c hc
  · rw [if_neg q] at hx ⊢; exact h.2.2 (i + 1) x hx c hc
theorem MP.mov {w w' : Nat → Int32} {P : Pl} {n t : Nat} {r : Rl} (h : MP w P) (hr : P.2[n]? = some r) (ht : t < P.2.length) (h0 : w' 0 = w 0) (h1 : w' 1 = w 1) (hs : ∀ i c, i < P.2.length → i ≠ t → c < 5 → w' (2 + 5 * i + c) = w (2 + 5 * (if i < t then (if i < n then i else i + 1) else (if i - 1 < n then i - 1 else i)) + c)) (hn : ∀ c, c < 5 → w' (2 + 5 * t + c) = nI (fld r c)) : MP w' (P.1, (P.2.eraseIdx n).insertIdx t r) := by
  have hl := ltl hr
  have hle : (P.2.eraseIdx n).length = P.2.length - 1 := List.length_eraseIdx_of_lt hl
  have hli : ((P.2.eraseIdx n).insertIdx t r).length = P.2.length := by rw [List.length_insertIdx_of_le_length (by omega), hle]; omega
  refine ⟨by rw [h0, hli]; exact h.1, by rw [h1]; exact h.2.1, fun i x hx c hc => ?_⟩
  have hi := ltl hx
  rw [hli] at hi
  rw [List.getElem?_insertIdx] at hx
  by_cases q : i < t
  · rw [if_pos q, List.getElem?_eraseIdx] at hx
    rw [hs i c hi (by omega) hc, if_pos q]
    by_cases q2 : i < n
    · rw [if_pos q2] at hx ⊢; exact h.2.2 i x hx c hc
    · rw [if_neg q2] at hx ⊢; exact h.2.2 (i + 1) x hx c hc
  · rw [if_neg q] at hx
    by_cases q2 : i = t
    · rw [if_pos q2, if_pos (by omega)] at hx
      cases hx
      rw [q2]; exact hn c hc
    · rw [if_neg q2, List.getElem?_eraseIdx] at hx
      rw [hs i c hi q2 hc, if_neg q]
      by_cases q3 : i - 1 < n
      · rw [if_pos q3] at hx ⊢; exact h.2.2 (i - 1) x hx c hc
      · rw [if_neg q3, show i - 1 + 1 = i by omega] at hx
        rw [if_neg q3]; exact h.2.2 i x hx c hc
theorem MP.setr {w w' : Nat → Int32} {P : Pl} {n : Nat} {r r' : Rl} (h : MP w P) (hr : P.2[n]? = some r) (h0 : w' 0 = w 0) (h1 : w' 1 = w 1) (hs : ∀ i c, i < P.2.length → i ≠ n → c < 5 → w' (2 + 5 * i + c) = w (2 + 5 * i + c)) (hn : ∀ c, c < 5 → w' (2 + 5 * n + c) = nI (fld r' c)) : MP w' (P.1, P.2.set n r') := by
  have hl := ltl hr
  refine ⟨by rw [h0, List.length_set]; exact h.1, by rw [h1]; exact h.2.1, fun i x hx c hc => ?_⟩
  have hi := ltl hx
  rw [List.length_set] at hi
  rw [List.getElem?_set] at hx
  by_cases q : n = i
  · subst q
    rw [if_pos rfl, if_pos hl] at hx
    cases hx
    exact hn c hc
  · rw [if_neg q] at hx
    rw [hs i c hi (Ne.symm q) hc]; exact h.2.2 i x hx c hc
/-- the rules of policy p in g are those of f at the places src; all else is f's -/
def RW (g f : Nat → Int32) (p : Nat) (src : Nat → Nat) : Prop := (∀ i c, i < 8 → c < 5 → g (42 * p + 2 + 5 * i + c) = f (42 * p + 2 + 5 * src i + c)) ∧ ∀ j, ¬ (42 * p + 2 ≤ j ∧ j < 42 * p + 42) → g j = f j
theorem RW.rf (f : Nat → Int32) (p : Nat) : RW f f p (fun i => i) := ⟨fun _ _ _ _ => rfl, fun _ _ => rfl⟩
theorem M_copies {p a b : Nat} {f g : Nat → Int32} {src : Nat → Nat} {st : St} {Q : St → Prop} (hp : p < 2) (ha : a < 8) (hb : b < 8) (hne : a ≠ b) (hg : RW g f p src) (h : ∀ g', RW g' f p (fun i => if i = b then src a else src i) → Q (upR st 19 g')) : wp_X5_copies (nI p) (nI a) (nI b) (upR st 19 g) Q := by
  intro P11 h11 x4 hx4
  rw [m42, a2] at hx4
  subst hx4
  have key : ∀ d i, i + d = 5 → P11 (nI (42 * p + 2)) (nI i) (upR st 19 (fun j => if 42 * p + 2 + 5 * b ≤ j ∧ j < 42 * p + 2 + 5 * b + i then g (42 * p + 2 + 5 * a + (j - (42 * p + 2 + 5 * b))) else g j)) := by
    intro d
    induction d with
    | zero =>
      intro i hi
      have : i = 5 := by omega
      subst this
      refine h11 _ _ _ ⟨fun _ => h _ ⟨fun i c hi hc => ?_, fun j hj => ?_⟩, fun c => absurd (by decide) c⟩
      · show (if 42 * p + 2 + 5 * b ≤ 42 * p + 2 + 5 * i + c ∧ _ then _ else _) = f (42 * p + 2 + 5 * (if i = b then src a else src i) + c)
        by_cases e : i = b
        · subst e
          rw [if_pos (by omega), if_pos rfl, show 42 * p + 2 + 5 * a + (42 * p + 2 + 5 * i + c - (42 * p + 2 + 5 * i)) = 42 * p + 2 + 5 * a + c by omega]
          exact hg.1 a c ha hc
        · rw [if_neg (by omega), if_neg e]; exact hg.1 i c hi hc
      · show (if 42 * p + 2 + 5 * b ≤ j ∧ _ then _ else _) = _
        rw [if_neg (by omega)]; exact hg.2 j hj
    | succ d ih =>
      intro i hi
      refine h11 _ _ _ ?_
      rw [m5, m5, nI_add, nI_add, nI_add, nI_add, nI_clamp (by omega), nI_clamp (by omega)]
      refine ⟨fun c => absurd c (nI_ge (a := i) (b := 5) (by omega) (by omega)), fun _ => ⟨vp_in_nI (by omega) (by omega), vp_in_nI (by omega) (by omega), fun y hy => ?_⟩⟩
      rw [hy, a1, up2_upR, upR_self]
      have e : upd (fun j => if 42 * p + 2 + 5 * b ≤ j ∧ j < 42 * p + 2 + 5 * b + i then g (42 * p + 2 + 5 * a + (j - (42 * p + 2 + 5 * b))) else g j) (42 * p + 2 + 5 * b + i) ((fun j => if 42 * p + 2 + 5 * b ≤ j ∧ j < 42 * p + 2 + 5 * b + i then g (42 * p + 2 + 5 * a + (j - (42 * p + 2 + 5 * b))) else g j) (42 * p + 2 + 5 * a + i)) = fun j => if 42 * p + 2 + 5 * b ≤ j ∧ j < 42 * p + 2 + 5 * b + (i + 1) then g (42 * p + 2 + 5 * a + (j - (42 * p + 2 + 5 * b))) else g j := by
        funext j; unfold upd
        by_cases q : j = 42 * p + 2 + 5 * b + i
        · subst q; rw [if_pos rfl, if_pos (by omega)]
          show (if 42 * p + 2 + 5 * b ≤ 42 * p + 2 + 5 * a + i ∧ _ then _ else _) = _
          rw [if_neg (by omega)]; congr 1; omega
        · rw [if_neg q]
          show (if _ then _ else _) = _
          by_cases q2 : 42 * p + 2 + 5 * b ≤ j ∧ j < 42 * p + 2 + 5 * b + i
          · rw [if_pos q2, if_pos (by omega)]
          · rw [if_neg q2, if_neg (by omega)]
      rw [e]
      exact ih (i + 1) (by omega)
  have h0 := key 5 0 (by omega)
  have e : (fun j => if 42 * p + 2 + 5 * b ≤ j ∧ j < 42 * p + 2 + 5 * b + 0 then g (42 * p + 2 + 5 * a + (j - (42 * p + 2 + 5 * b))) else g j) = g := by funext j; rw [if_neg (by omega)]
  rw [e] at h0
  exact h0
theorem vmask : ∀ a, a < 4 → ∀ e, ((1 : Int32) <<< (nI (vcN a) &&& (31 : Int32))) - (1 : Int32) = nI (fld (allR e) (a + 1)) := by
  intro a ha e
  rcases (show a = 0 ∨ a = 1 ∨ a = 2 ∨ a = 3 by omega) with rfl | rfl | rfl | rfl
  · show _ = nI 255; decide
  · show _ = nI 15; decide
  · show _ = nI 255; decide
  · show _ = nI 15; decide
theorem okP.ins {P : Pl} {r e : Nat} (h : okP P) (hl : P.2.length < 8) (hr : r ≤ P.2.length) (he : e < 2) : okP (P.1, P.2.insertIdx r (allR e)) := by
  refine ⟨h.1, by show (P.2.insertIdx r (allR e)).length ≤ 8; rw [List.length_insertIdx_of_le_length hr]; omega, fun i x hx => ?_⟩
  rcases (List.mem_insertIdx hr).mp (List.mem_of_getElem? hx) with e1 | e1
  · subst e1; exact ⟨he, by show (255 : Nat) < 256; omega, by show (15 : Nat) < 16; omega, by show (255 : Nat) < 256; omega, by show (15 : Nat) < 16; omega⟩
  · obtain ⟨j, hj⟩ := List.getElem?_of_mem e1
    exact h.2.2 j x hj
theorem okP.del {P : Pl} {r : Nat} (h : okP P) : okP (P.1, P.2.eraseIdx r) := by
  refine ⟨h.1, Nat.le_trans (List.length_eraseIdx_le ..) h.2.1, fun i x hx => ?_⟩
  obtain ⟨j, hj⟩ := List.getElem?_of_mem (List.mem_of_mem_eraseIdx (List.mem_of_getElem? hx))
  exact h.2.2 j x hj
theorem okP.setr {P : Pl} {n : Nat} {r' : Rl} (h : okP P) (hr : okR r') : okP (P.1, P.2.set n r') := by
  refine ⟨h.1, by show (P.2.set n r').length ≤ 8; rw [List.length_set]; exact h.2.1, fun i x hx => ?_⟩
  rcases List.mem_or_eq_of_mem_set (List.mem_of_getElem? hx) with e1 | e1
  · obtain ⟨j, hj⟩ := List.getElem?_of_mem e1
    exact h.2.2 j x hj
  · subst e1; exact hr
theorem okP.mov {P : Pl} {n t : Nat} {r : Rl} (h : okP P) (hr : P.2[n]? = some r) (ht : t < P.2.length) : okP (P.1, (P.2.eraseIdx n).insertIdx t r) := by
  have hl := ltl hr
  have hle : (P.2.eraseIdx n).length = P.2.length - 1 := List.length_eraseIdx_of_lt hl
  have h8 := h.2.1
  refine ⟨h.1, by show ((P.2.eraseIdx n).insertIdx t r).length ≤ 8; rw [List.length_insertIdx_of_le_length (by omega)]; omega, fun i x hx => ?_⟩
  rcases (List.mem_insertIdx (by omega)).mp (List.mem_of_getElem? hx) with e1 | e1
  · subst e1; exact h.2.2 n x hr
  · obtain ⟨j, hj⟩ := List.getElem?_of_mem (List.mem_of_mem_eraseIdx e1)
    exact h.2.2 j x hj
