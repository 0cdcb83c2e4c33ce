theorem up2_upR (st : St) (k : Nat) (f : Nat → Int32) (j : Nat) (v : Int32) : up2 (upR st k f) k j v = upR st k (upd f j v) := by
  unfold up2; rw [upR_self]; funext a; unfold upR; by_cases h : a = k <;> simp [h]
theorem upR_upR (st : St) (k : Nat) (f g : Nat → Int32) : upR (upR st k f) k g = upR st k g := by
  funext a; unfold upR; by_cases h : a = k <;> simp [h]
theorem upR_id (st : St) (k : Nat) : upR st k (st k) = st := by
  funext a; unfold upR; by_cases h : a = k <;> simp [h]
theorem up2_at (st : St) (k j : Nat) (v : Int32) (a b : Nat) : up2 st k j v a b = if a = k then (if b = j then v else st k b) else st a b := by
  unfold up2 upR upd; by_cases h : a = k <;> simp [h]
theorem upR_at (st : St) (k : Nat) (f : Nat → Int32) (a b : Nat) : upR st k f a b = if a = k then f b else st a b := by
  unfold upR; by_cases h : a = k <;> simp [h]
theorem upd_at (f : Nat → Int32) (j : Nat) (v : Int32) (b : Nat) : upd f j v b = if b = j then v else f b := rfl
def vcN (x : Nat) : Nat := [8, 4, 8, 4].getD x 0
def frN (x : Nat) : Nat := [0, 8, 12, 20].getD x 0
theorem vcF_N : ∀ x, x < 4 → vcF x = nI (vcN x) := by decide +kernel
theorem frF_N : ∀ x, x < 4 → frF x = nI (frN x) := by decide +kernel
theorem vcN_le : ∀ x, x < 4 → vcN x ≤ 8 := by decide +kernel
theorem fvN_le : ∀ x, x < 4 → frN x + vcN x ≤ 24 := by decide +kernel
def upb (x b : Int32) (n : Nat) : Int32 := (x &&& (((1 : Int32) <<< (nI n &&& 31)) ^^^ (-1 : Int32))) ||| (b <<< (nI n &&& 31))
theorem upb_bt {x b : Int32} {n i : Nat} (hn : n < 32) (hb : b = 0 ∨ b = 1) (hi : i < 32) : bt (upb x b n) i = if i = n then decide (b = 1) else bt x i := by
  unfold upb
  rw [b_or, b_and, b_inv _ hi, b_one n hn i hi, b_shl n hn b hi, b_bool hb]
  by_cases h : i = n
  · subst h; rw [if_pos rfl]; simp
  · rw [if_neg h]
    by_cases h2 : n ≤ i
    · rw [decide_eq_false h, decide_eq_false (by omega : ¬ i - n = 0)]; simp
    · rw [decide_eq_false h, decide_eq_false h2]; simp
theorem and1 (x : Int32) : (x &&& 1 = 0 ∨ x &&& 1 = 1) ∧ decide (x &&& 1 = 1) = bt x 0 := by
  obtain ⟨q, hq, e⟩ := pk_andE x (m := 1) 1 (by decide)
  have h : x &&& 1 = 0 ∨ x &&& 1 = 1 := by
    rcases (show q = 0 ∨ q = 1 by omega) with z | z <;> subst z <;> rw [e]
    · exact Or.inl rfl
    · exact Or.inr rfl
  refine ⟨h, ?_⟩
  have e0 := b_bool h 0
  rw [b_and, b_1] at e0
  simpa using e0.symm
theorem shr1_bt (x : Int32) {n : Nat} (hn : n < 32) : bt (x >>> (nI n &&& 31)) 0 = bt x n := by
  rw [b_sshr n hn x (by omega), if_pos (by omega)]; rfl
def setm (r : Rl) (x m : Nat) : Rl := match x with
  | 0 => (r.1, m, r.2.2)
  | 1 => (r.1, r.2.1, m, r.2.2.2)
  | 2 => (r.1, r.2.1, r.2.2.1, m, r.2.2.2.2)
  | _ => (r.1, r.2.1, r.2.2.1, r.2.2.2.1, m)
theorem rb_setm (r : Rl) (x m j : Nat) (hx : x < 4) (hj : j < 25) : rb (setm r x m) j = if frN x ≤ j ∧ j < frN x + vcN x then m.testBit (j - frN x) else rb r j := by
  rcases (show x = 0 ∨ x = 1 ∨ x = 2 ∨ x = 3 by omega) with rfl | rfl | rfl | rfl
  · show rb (r.1, m, r.2.2) j = if 0 ≤ j ∧ j < 0 + 8 then m.testBit (j - 0) else rb r j
    unfold rb
    by_cases h : j < 8
    · rw [if_pos h, if_pos (by omega)]; rfl
    · rw [if_neg h, if_neg (show ¬ (0 ≤ j ∧ j < 0 + 8) by omega), if_neg h]
  · show rb (r.1, r.2.1, m, r.2.2.2) j = if 8 ≤ j ∧ j < 8 + 4 then m.testBit (j - 8) else rb r j
    unfold rb
    by_cases h : j < 8
    · rw [if_pos h, if_neg (by omega), if_pos h]
    · rw [if_neg h, if_neg h]
      by_cases h2 : j < 12
      · rw [if_pos h2, if_pos (by omega)]
      · rw [if_neg h2, if_neg (show ¬ (8 ≤ j ∧ j < 8 + 4) by omega), if_neg h2]
  · show rb (r.1, r.2.1, r.2.2.1, m, r.2.2.2.2) j = if 12 ≤ j ∧ j < 12 + 8 then m.testBit (j - 12) else rb r j
    unfold rb
    by_cases h : j < 8
    · rw [if_pos h, if_neg (by omega), if_pos h]
    · rw [if_neg h, if_neg h]
      by_cases h2 : j < 12
      · rw [if_pos h2, if_neg (by omega), if_pos h2]
      · rw [if_neg h2, if_neg h2]
        by_cases h3 : j < 20
        · rw [if_pos h3, if_pos (by omega)]
        · rw [if_neg h3, if_neg (show ¬ (12 ≤ j ∧ j < 12 + 8) by omega), if_neg h3]
  · show rb (r.1, r.2.1, r.2.2.1, r.2.2.2.1, m) j = if 20 ≤ j ∧ j < 20 + 4 then m.testBit (j - 20) else rb r j
    unfold rb
    by_cases h : j < 8
    · rw [if_pos h, if_neg (by omega), if_pos h]
    · rw [if_neg h, if_neg h]
      by_cases h2 : j < 12
      · rw [if_pos h2, if_neg (by omega), if_pos h2]
      · rw [if_neg h2, if_neg h2]
        by_cases h3 : j < 20
        · rw [if_pos h3, if_neg (by omega), if_pos h3]
        · rw [if_neg h3, if_neg h3]
          by_cases h4 : j < 24
          · rw [if_pos h4, if_pos (by omega)]
          · rw [if_neg h4, if_neg (show ¬ (20 ≤ j ∧ j < 20 + 4) by omega), if_neg h4]
theorem rb_attr (r : Rl) (x v : Nat) (hx : x < 4) (hv : v < vcN x) : rb r (frN x + v) = (fld r (x + 1)).testBit v := by
  rcases (show x = 0 ∨ x = 1 ∨ x = 2 ∨ x = 3 by omega) with rfl | rfl | rfl | rfl
  · have hv : v < 8 := hv
    show rb r (0 + v) = r.2.1.testBit v
    unfold rb
    rw [if_pos (by omega), Nat.zero_add]
  · have hv : v < 4 := hv
    show rb r (8 + v) = r.2.2.1.testBit v
    unfold rb
    rw [if_neg (by omega), if_pos (by omega), show 8 + v - 8 = v by omega]
  · have hv : v < 8 := hv
    show rb r (12 + v) = r.2.2.2.1.testBit v
    unfold rb
    rw [if_neg (by omega), if_neg (by omega), if_pos (by omega), show 12 + v - 12 = v by omega]
  · have hv : v < 4 := hv
    show rb r (20 + v) = r.2.2.2.2.testBit v
    unfold rb
    rw [if_neg (by omega), if_neg (by omega), if_neg (by omega), if_pos (by omega), show 20 + v - 20 = v by omega]
theorem lb_set {L : List Rl} {n : Nat} {r r' : Rl} (hr : L[n]? = some r) (j i : Nat) : lb (L.set n r') j i = if i = n then rb r' j else lb L j i := by
  have hn := (List.getElem?_eq_some_iff.mp hr).1
  unfold lb
  rw [List.getElem?_set]
  by_cases h : i = n
  · subst h; rw [if_pos rfl, if_pos hn, if_pos rfl]
  · rw [if_neg (Ne.symm h), if_neg h]
/-- one attribute's values of one rule anew -/
def reF (f : Nat → Int32) (n x : Nat) (x3 : Int32) (i : Nat) : Nat → Int32 := fun j => if frN x ≤ j ∧ j < frN x + i then upb (f j) ((x3 >>> (nI (j - frN x) &&& 31)) &&& 1) n else f j
theorem CP.set {R : Nat → Int32} {cn ca : Int32} {P : Pl} {n x m : Nat} {r : Rl} (h : CP R cn ca P) (hl : P.2.length ≤ 8) (hr : P.2[n]? = some r) (hx : x < 4) (hm : m < 256) : CP (reF R n x (nI m) (vcN x)) cn ca (P.1, P.2.set n (setm r x m)) := by
  have hn := (List.getElem?_eq_some_iff.mp hr).1
  have hv := vcN_le x hx
  refine ⟨by rw [h.1, List.length_set], h.2.1, fun j hj i hi => ?_⟩
  rw [lb_set hr, rb_setm r x m j hx hj]
  unfold reF
  by_cases c : frN x ≤ j ∧ j < frN x + vcN x
  · rw [if_pos c, if_pos c, upb_bt (by omega) (and1 _).1 hi, (and1 _).2, shr1_bt _ (by omega), b_nI _ (by omega), h.2.2 j hj i hi]
  · rw [if_neg c, if_neg c, h.2.2 j hj i hi]
    by_cases e : i = n
    · subst e; rw [if_pos rfl]; unfold lb; rw [hr]
    · rw [if_neg e]
theorem CP.flip {R R' : Nat → Int32} {cn ca : Int32} {P : Pl} {n : Nat} {r : Rl} (h : CP R cn ca P) (hl : P.2.length ≤ 8) (hr : P.2[n]? = some r) (he : r.1 < 2) (h1 : ∀ j, j < 24 → R' j = R j) (h2 : R' 24 = R 24 ^^^ ((1 : Int32) <<< (nI n &&& 31))) : CP R' cn ca (P.1, P.2.set n (1 - r.1, r.2)) := by
  have hn := (List.getElem?_eq_some_iff.mp hr).1
  refine ⟨by rw [h.1, List.length_set], h.2.1, fun j hj i hi => ?_⟩
  rw [lb_set hr]
  by_cases c : j = 24
  · subst c
    rw [h2, b_xor, b_one n (by omega) i hi, h.2.2 24 (by omega) i hi]
    by_cases e : i = n
    · subst e
      rw [if_pos rfl]
      unfold lb
      rw [hr]
      show (decide (r.1 = 1) ^^ decide (i = i)) = decide (1 - r.1 = 1)
      rcases (show r.1 = 0 ∨ r.1 = 1 by omega) with z | z <;> rw [z] <;> simp
    · rw [if_neg e, decide_eq_false e]; simp
  · rw [h1 j (by omega), h.2.2 j hj i hi]
    by_cases e : i = n
    · subst e
      rw [if_pos rfl]
      unfold lb
      rw [hr]
      show rb r j = rb (1 - r.1, r.2) j
      unfold rb
      have : j < 24 := by omega
      simp only [this, if_true]
    · rw [if_neg e]
