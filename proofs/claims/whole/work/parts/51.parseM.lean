/-! the reference's reading -/
def Tm (st : St) (T : List Nat) (i : Nat) : Prop := okT T ∧ st 17 0 = nI T.length ∧ (∀ (j c : Nat), T[j]? = some c → st 18 j = nI c) ∧ st 17 8 = nI i ∧ i ≤ T.length
theorem Tm.mv {st : St} {T : List Nat} {i i' : Nat} (h : Tm st T i) (hi : i' ≤ T.length) : Tm (up2 st 17 8 (nI i')) T i' := by
  obtain ⟨h1, h2, h3, h4, h5⟩ := h
  refine ⟨h1, ?_, fun j c hj => ?_, ?_, hi⟩
  · rw [up2_at, if_pos rfl, if_neg (by decide)]; exact h2
  · rw [up2_at, if_neg (by decide)]; exact h3 j c hj
  · rw [up2_at, if_pos rfl, if_pos rfl]
theorem Tm.le {st : St} {T : List Nat} {i : Nat} (h : Tm st T i) : i ≤ T.length := h.2.2.2.2
theorem s_next {i : Nat} {T : List Nat} {st : St} {Q : Int32 → St → Prop} (hT : Tm st T i) (h1 : ∀ c, T[i]? = some c → c ≤ 126 → Q (nI c) st) (h0 : T[i]? = none → Q 0 st) : wp_X5_next st Q := by
  obtain ⟨⟨hn, hb⟩, e4, e6, e5, hi⟩ := hT
  unfold wp_X5_next
  rw [e4, e5]
  refine pk_le T.length i (fun q => h0 (List.getElem?_eq_none q)) (fun q => ⟨vp_in_nI (by omega) (by omega), ?_⟩)
  obtain ⟨d, hd⟩ : ∃ d, T[i]? = some d := ⟨T[i], List.getElem?_eq_getElem q⟩
  rw [nI_clamp (by omega), e6 _ _ hd]
  exact h1 d hd (hb _ _ hd).2
theorem s_is {k c i : Nat} {T : List Nat} {st : St} {Q : Int32 → St → Prop} (hk : k ≤ 10) (hc : c < 2 ^ 31) (hT : Tm st T i) (h1 : T[i + k]? = some c → Q 1 st) (h0 : T[i + k]? ≠ some c → Q 0 st) : wp_X5_is (nI k) (nI c) st Q := by
  obtain ⟨⟨hn, hb⟩, e4, e6, e5, hi⟩ := hT
  unfold wp_X5_is
  rw [e4, e5, nI_add]
  refine pk_le T.length (i + k) (fun q => h0 (by rw [List.getElem?_eq_none q]; exact fun z => nomatch z)) (fun q => ⟨vp_in_nI (by omega) (by omega), ?_⟩)
  obtain ⟨d, hd⟩ : ∃ d, T[i + k]? = some d := ⟨T[i + k], List.getElem?_eq_getElem q⟩
  have hdd := hb _ _ hd
  rw [nI_clamp (by omega), e6 _ _ hd]
  exact pk_eq d c (fun z => h1 (by rw [hd, z])) (fun z => h0 (by rw [hd]; exact fun y => z (Option.some.inj y)))
theorem mt_t {T w : List Nat} {c i : Nat} (h : T[i]? = some c) : mt T (c :: w) i = mt T w (i + 1) := by
  show (decide (T[i]? = some c) && mt T w (i + 1)) = _
  rw [decide_eq_true h, Bool.true_and]
theorem mt_f {T w : List Nat} {c i : Nat} (h : T[i]? ≠ some c) : mt T (c :: w) i = false := by
  show (decide (T[i]? = some c) && mt T w (i + 1)) = _
  rw [decide_eq_false h, Bool.false_and]
theorem mt_app {T : List Nat} : ∀ (u v : List Nat) (i : Nat), mt T (u ++ v) i = (mt T u i && mt T v (i + u.length)) := by
  intro u
  induction u with
  | nil => intro v i; exact (Bool.true_and _).symm
  | cons c u ih =>
    intro v i
    show (decide (T[i]? = some c) && mt T (u ++ v) (i + 1)) = ((decide (T[i]? = some c) && mt T u (i + 1)) && mt T v (i + (u.length + 1)))
    rw [ih, Bool.and_assoc, show i + 1 + u.length = i + (u.length + 1) by omega]
theorem mt_ex {T u v : List Nat} {c d i : Nat} (hu : mt T (c :: u) i = true) (hcd : c ≠ d) : mt T (d :: v) i = false := by
  refine mt_f (fun z => ?_)
  have hu : (decide (T[i]? = some c) && mt T u (i + 1)) = true := hu
  rw [Bool.and_eq_true] at hu
  have := of_decide_eq_true hu.1
  rw [z] at this
  exact hcd (Option.some.inj this).symm
theorem s_w3 {c1 c2 c3 i : Nat} {t T : List Nat} {st : St} {P31 : St → Prop} {P32 : Int32 → St → Prop} (hT : Tm st T i) (hc1 : c1 < 127) (hc2 : c2 < 127) (hc3 : c3 < 127) (h0 : mt T (c1 :: c2 :: c3 :: t) i = false → P31 st) (h1 : mt T (c1 :: c2 :: c3 :: t) i = mt T t (i + 3) → P32 1 st) :
    wp_X5_is (0 : Int32) (nI c1) st (fun r_16 s_15 => (r_16 = 0 → (P31 s_15)) ∧ (¬ r_16 = 0 → (wp_X5_is (1 : Int32) (nI c2) s_15 (fun r_18 s_17 => (r_18 = 0 → (P31 s_17)) ∧ (¬ r_18 = 0 → (wp_X5_is (2 : Int32) (nI c3) s_17 (fun r_20 s_19 => (r_20 = 0 → (P31 s_19)) ∧ (¬ r_20 = 0 → (P32 (1 : Int32) s_19))))))))) := by
  refine s_is (k := 0) (by omega) (by omega) hT (fun q1 => g1 ?_) (fun q1 => g0 (h0 (mt_f q1)))
  refine s_is (k := 1) (by omega) (by omega) hT (fun q2 => g1 ?_) (fun q2 => g0 (h0 ((mt_t q1).trans (mt_f q2))))
  refine s_is (k := 2) (by omega) (by omega) hT (fun q3 => g1 (h1 ?_)) (fun q3 => g0 (h0 ((mt_t q1).trans ((mt_t q2).trans (mt_f q3)))))
  exact (mt_t q1).trans ((mt_t q2).trans (mt_t q3))
theorem s_word {c1 c2 c3 c4 c5 c6 n i : Nat} {T : List Nat} {st : St} {Q : Int32 → St → Prop} (hn : 3 ≤ n ∧ n ≤ 6) (hc : (c1 < 127 ∧ c2 < 127 ∧ c3 < 127) ∧ c4 < 127 ∧ c5 < 127 ∧ c6 < 127) (hT : Tm st T i) (h1 : mt T ([c1, c2, c3, c4, c5, c6].take n) i = true → Q 1 (up2 st 17 8 (nI (i + n)))) (h0 : mt T ([c1, c2, c3, c4, c5, c6].take n) i = false → Q 0 st) : wp_X5_word (nI c1) (nI c2) (nI c3) (nI c4) (nI c5) (nI c6) (nI n) st Q := by
  intro P31 P32 P55 P71 P92 P93 h31 h32 h55 h71 h92 h93
  have e8 := hT.2.2.2.1
  have ok : mt T ([c1, c2, c3, c4, c5, c6].take n) i = true → P93 1 st := fun e => h93 _ _ ⟨fun c => absurd c (by decide), fun _ => ⟨Or.inr rfl, by rw [e8, nI_add]; exact h1 e⟩⟩
  have no : mt T ([c1, c2, c3, c4, c5, c6].take n) i = false → P92 st := fun e => h92 _ (h93 _ _ ⟨fun _ => ⟨Or.inl rfl, by rw [up2_id st 17 8 _ (show st 17 8 = st 17 8 + 0 by rw [Int32.add_zero])]; exact h0 e⟩, fun c => absurd rfl c⟩)
  have no1 : mt T ([c1, c2, c3, c4, c5, c6].take n) i = false → P31 st := fun e => h31 _ (h32 _ _ (g0 (no e)))
  rcases (show n = 3 ∨ n = 4 ∨ n = 5 ∨ n = 6 by omega) with rfl | rfl | rfl | rfl
  · refine s_w3 (t := []) hT hc.1.1 hc.1.2.1 hc.1.2.2 no1 (fun e => h32 _ _ (g1 ⟨fun _ => h55 _ ⟨fun _ => h71 _ ⟨fun _ => ok e, fun c => absurd (by decide) c⟩, fun c => absurd (by decide) c⟩, fun c => absurd (by decide) c⟩))
  · refine s_w3 (t := [c4]) hT hc.1.1 hc.1.2.1 hc.1.2.2 no1 (fun e => h32 _ _ (g1 ⟨fun c => absurd c (by decide), fun _ => ?_⟩))
    refine s_is (k := 3) (by omega) (by omega) hT (fun q4 => g1 ?_) (fun q4 => g0 (no (e.trans (mt_f q4))))
    exact h55 _ ⟨fun _ => h71 _ ⟨fun _ => ok (e.trans (mt_t q4)), fun c => absurd (by decide) c⟩, fun c => absurd (by decide) c⟩
  · refine s_w3 (t := [c4, c5]) hT hc.1.1 hc.1.2.1 hc.1.2.2 no1 (fun e => h32 _ _ (g1 ⟨fun c => absurd c (by decide), fun _ => ?_⟩))
    refine s_is (k := 3) (by omega) (by omega) hT (fun q4 => g1 (h55 _ ⟨fun c => absurd c (by decide), fun _ => ?_⟩)) (fun q4 => g0 (no (e.trans (mt_f q4))))
    refine s_is (k := 4) (by omega) (by omega) hT (fun q5 => g1 (h71 _ ⟨fun _ => ok ((e.trans (mt_t q4)).trans (mt_t q5)), fun c => absurd (by decide) c⟩)) (fun q5 => g0 (no ((e.trans (mt_t q4)).trans (mt_f q5))))
  · refine s_w3 (t := [c4, c5, c6]) hT hc.1.1 hc.1.2.1 hc.1.2.2 no1 (fun e => h32 _ _ (g1 ⟨fun c => absurd c (by decide), fun _ => ?_⟩))
    refine s_is (k := 3) (by omega) (by omega) hT (fun q4 => g1 (h55 _ ⟨fun c => absurd c (by decide), fun _ => ?_⟩)) (fun q4 => g0 (no (e.trans (mt_f q4))))
    refine s_is (k := 4) (by omega) (by omega) hT (fun q5 => g1 (h71 _ ⟨fun c => absurd c (by decide), fun _ => ?_⟩)) (fun q5 => g0 (no ((e.trans (mt_t q4)).trans (mt_f q5))))
    refine s_is (k := 5) (by omega) (by omega) hT (fun q6 => g1 (ok (((e.trans (mt_t q4)).trans (mt_t q5)).trans (mt_t q6)))) (fun q6 => g0 (no (((e.trans (mt_t q4)).trans (mt_t q5)).trans (mt_f q6))))
theorem s_are {k c1 c2 c3 c4 i : Nat} {T : List Nat} {st : St} {Q : Int32 → St → Prop} (hk : k ≤ 6) (hc : c1 < 127 ∧ c2 < 127 ∧ c3 < 127 ∧ c4 < 127) (hT : Tm st T i) (h1 : mt T [c1, c2, c3, c4] (i + k) = true → Q 1 st) (h0 : mt T [c1, c2, c3, c4] (i + k) = false → Q 0 st) : wp_X5_are (nI k) (nI c1) (nI c2) (nI c3) (nI c4) st Q := by
  refine s_is (by omega) (by omega) hT (fun q1 => g1 ?_) (fun q1 => g0 (h0 (mt_f q1)))
  rw [a1]
  refine s_is (by omega) (by omega) hT (fun q2 => g1 ?_) (fun q2 => g0 (h0 ((mt_t q1).trans (mt_f q2))))
  rw [a2]
  refine s_is (by omega) (by omega) hT (fun q3 => g1 ?_) (fun q3 => g0 (h0 ((mt_t q1).trans ((mt_t q2).trans (mt_f q3)))))
  rw [show nI k + (3 : Int32) = nI (k + 3) from nI_add k 3]
  refine s_is (by omega) (by omega) hT (fun q4 => g1 (h1 ((mt_t q1).trans ((mt_t q2).trans ((mt_t q3).trans (mt_t q4)))))) (fun q4 => g0 (h0 ((mt_t q1).trans ((mt_t q2).trans ((mt_t q3).trans (mt_f q4))))))
theorem mv8 (st : St) (v : Nat) (n : Nat) (x : Int32) (hx : x = nI n) : up2 (up2 st 17 8 (nI v)) 17 8 ((up2 st 17 8 (nI v)) 17 8 + x) = up2 st 17 8 (nI (v + n)) := by
  rw [up2_up2, up2_at, if_pos rfl, if_pos rfl, hx, nI_add]
theorem w5 {T : List Nat} {i : Nat} : mt T (wSx.getD 5 []) i = (mt T [100, 101, 110, 121] i && mt T [111, 118, 101, 114] (i + 4)) := mt_app [100, 101, 110, 121] [111, 118, 101, 114] i
theorem w6 {T : List Nat} {i : Nat} : mt T (wSx.getD 6 []) i = (mt T [112, 101, 114, 109, 105, 116] i && mt T [111, 118, 101, 114] (i + 6)) := mt_app [112, 101, 114, 109, 105, 116] [111, 118, 101, 114] i
theorem w7 {T : List Nat} {i : Nat} : mt T (wSx.getD 7 []) i = (mt T [111, 110, 108, 121, 111, 110] i && mt T [101] (i + 6)) := mt_app [111, 110, 108, 121, 111, 110] [101] i
theorem w8 {T : List Nat} {i : Nat} : mt T (wSx.getD 8 []) i = (mt T [109, 97, 106, 111, 114, 105] i && mt T [116, 121] (i + 6)) := mt_app [109, 97, 106, 111, 114, 105] [116, 121] i
theorem M_alg {T : List Nat} {i : Nat} {st : St} {Q : Int32 → St → Prop} (hT : Tm st T i) (hs : ∀ x, alN T i = some x → x.2 < 5 → i ≤ x.1 → x.1 ≤ T.length → Q (nI x.2) (up2 st 17 8 (nI x.1))) (hf : alN T i = none → Q (-4) st) : wp_X5_algorithm st Q := by
  intro P67 P117 P161 h67 h117 h161
  have hi := hT.le
  have l161 : mt T (wSx.getD 4 []) i = false → mt T (wSx.getD 5 []) i = false → mt T (wSx.getD 6 []) i = false → mt T (wSx.getD 7 []) i = false → P161 st := by
    intro q1 q2 q3 q4
    have no : mt T (wSx.getD 8 []) i = false → Q (-4) st := fun q5 => hf (by unfold alN; rw [if_neg (bnt q1), if_neg (bnt q2), if_neg (bnt q3), if_neg (bnt q4), if_neg (bnt q5)])
    refine h161 _ (s_is (k := 6) (c := 116) (by omega) (by omega) hT (fun a => g1 ?_) (fun a => g0 (no (by rw [w8, mt_f a, Bool.and_false]))))
    refine s_is (k := 7) (c := 121) (by omega) (by omega) hT (fun b => g1 ?_) (fun b => g0 (no (by rw [w8, mt_t a, mt_f b, Bool.and_false])))
    refine s_word (c1 := 109) (c2 := 97) (c3 := 106) (c4 := 111) (c5 := 114) (c6 := 105) (n := 6) (by omega) (by omega) hT (fun w => g1 ?_) (fun w => g0 (no (by rw [w8]; exact (congrArg (· && _) w).trans (Bool.false_and _))))
    have q5 : mt T (wSx.getD 8 []) i = true := by
      rw [w8, mt_t a, mt_t b]; exact (Bool.and_true _).trans w
    rw [mv8 st (i + 6) 2 2 rfl]
    exact hs (i + 8, 4) (by unfold alN; rw [if_neg (bnt q1), if_neg (bnt q2), if_neg (bnt q3), if_neg (bnt q4), if_pos q5]) (by show 4 < 5; omega) (by show i ≤ i + 8; omega) (mt_len _ i hi q5)
  have l117 : mt T (wSx.getD 4 []) i = false → mt T (wSx.getD 5 []) i = false → mt T (wSx.getD 6 []) i = false → P117 st := by
    intro q1 q2 q3
    refine h117 _ (s_is (k := 6) (c := 101) (by omega) (by omega) hT (fun a => g1 ?_) (fun a => g0 (l161 q1 q2 q3 (by rw [w7, mt_f a, Bool.and_false]))))
    refine s_word (c1 := 111) (c2 := 110) (c3 := 108) (c4 := 121) (c5 := 111) (c6 := 110) (n := 6) (by omega) (by omega) hT (fun w => g1 ?_) (fun w => g0 (l161 q1 q2 q3 (by rw [w7]; exact (congrArg (· && _) w).trans (Bool.false_and _))))
    have q4 : mt T (wSx.getD 7 []) i = true := by
      rw [w7, mt_t a]; exact (Bool.and_true _).trans w
    rw [mv8 st (i + 6) 1 1 rfl]
    exact hs (i + 7, 3) (by unfold alN; rw [if_neg (bnt q1), if_neg (bnt q2), if_neg (bnt q3), if_pos q4]) (by show 3 < 5; omega) (by show i ≤ i + 7; omega) (mt_len _ i hi q4)
  have l67 : mt T (wSx.getD 4 []) i = false → mt T (wSx.getD 5 []) i = false → P67 st := by
    intro q1 q2
    refine h67 _ (s_are (k := 6) (c1 := 111) (c2 := 118) (c3 := 101) (c4 := 114) (by omega) (by omega) hT (fun a => g1 ?_) (fun a => g0 (l117 q1 q2 (by rw [w6, a, Bool.and_false]))))
    refine s_word (c1 := 112) (c2 := 101) (c3 := 114) (c4 := 109) (c5 := 105) (c6 := 116) (n := 6) (by omega) (by omega) hT (fun w => g1 ?_) (fun w => g0 (l117 q1 q2 (by rw [w6]; exact (congrArg (· && _) w).trans (Bool.false_and _))))
    have q3 : mt T (wSx.getD 6 []) i = true := by
      rw [w6, a]; exact (Bool.and_true _).trans w
    rw [mv8 st (i + 6) 4 4 rfl]
    exact hs (i + 10, 2) (by unfold alN; rw [if_neg (bnt q1), if_neg (bnt q2), if_pos q3]) (by show 2 < 5; omega) (by show i ≤ i + 10; omega) (mt_len _ i hi q3)
  refine s_word (c1 := 102) (c2 := 105) (c3 := 114) (c4 := 115) (c5 := 116) (c6 := 0) (n := 5) (by omega) (by omega) hT (fun w => g1 ?_) (fun q1 => g0 ?_)
  · have q1 : mt T (wSx.getD 4 []) i = true := w
    exact hs (i + 5, 0) (if_pos q1) (by show 0 < 5; omega) (by show i ≤ i + 5; omega) (mt_len _ i hi q1)
  · have q1 : mt T (wSx.getD 4 []) i = false := q1
    refine s_are (k := 4) (c1 := 111) (c2 := 118) (c3 := 101) (c4 := 114) (by omega) (by omega) hT (fun a => g1 ?_) (fun a => g0 (l67 q1 (by rw [w5, a, Bool.and_false])))
    refine s_word (c1 := 100) (c2 := 101) (c3 := 110) (c4 := 121) (c5 := 0) (c6 := 0) (n := 4) (by omega) (by omega) hT (fun w => g1 ?_) (fun w => g0 (l67 q1 (by rw [w5]; exact (congrArg (· && _) w).trans (Bool.false_and _))))
    have q2 : mt T (wSx.getD 5 []) i = true := by
      rw [w5, a]; exact (Bool.and_true _).trans w
    rw [mv8 st (i + 4) 4 4 rfl]
    exact hs (i + 8, 1) (by unfold alN; rw [if_neg (bnt q1), if_pos q2]) (by show 1 < 5; omega) (by show i ≤ i + 8; omega) (mt_len _ i hi q2)
theorem s_attrOf {c : Nat} {st : St} {Q : Int32 → St → Prop} (hc : c < 127) (h1 : ∀ a, atN c = some a → Q (nI a) st) (h0 : atN c = none → Q (-4) st) : wp_X5_attributeOf (nI c) st Q := by
  unfold atN at h1 h0
  refine pk_eq c 115 (fun q => h1 0 (if_pos q)) (fun q => ?_)
  rw [if_neg q] at h1 h0
  refine pk_eq c 97 (fun q => h1 1 (if_pos q)) (fun q => ?_)
  rw [if_neg q] at h1 h0
  refine pk_eq c 114 (fun q => h1 2 (if_pos q)) (fun q => ?_)
  rw [if_neg q] at h1 h0
  refine pk_eq c 108 (fun q => h1 3 (if_pos q)) (fun q => ?_)
  rw [if_neg q] at h0
  exact h0 rfl
