def tblG : List Cond := lw_tbl.filter goodWord
theorem tblG_good : ∀ w ∈ tblG, (w.onTables && w.keeps) = true ∨ ∃ ty, w = .arrayClass ty := fun _ hw => good_of_word (List.mem_filter.mp hw).2
theorem tblG_in {w : Cond} (i : Nat) (h : lw_tbl[i]? = some w) (hg : goodWord w = true) : w ∈ tblG := List.mem_filter.mpr ⟨List.mem_of_getElem? h, hg⟩
theorem tblG_goodIn {w : Cond} (h : w ∈ tblG) : GoodIn tblG (w :: tblG) := fun v hv => by
  rcases List.mem_cons.mp hv with e | e
  · subst e; exact ⟨h, tblG_good _ h⟩
  · exact ⟨e, tblG_good _ e⟩
abbrev St : Type := Nat → Nat → Int32
abbrev Gp : Type := va_G × (ClassId × ClassId × ClassId) × (Nat → Nat) × (Nat → Prop) × List Nat × (Nat × Nat × Nat) × (Nat → Nat) × (Nat → Nat)
def gD (G : Gp) : va_G := G.1
def gI (G : Gp) : ClassId := G.2.1.1
def gC (G : Gp) : ClassId := G.2.1.2.1
def gZ (G : Gp) : ClassId := G.2.1.2.2
def gh (G : Gp) : Nat → Nat := G.2.2.1
def gA (G : Gp) : Nat → Prop := G.2.2.2.1
def gks (G : Gp) : List Nat := G.2.2.2.2.1
def gt1 (G : Gp) : Nat := G.2.2.2.2.2.1.1
def gt2 (G : Gp) : Nat := G.2.2.2.2.2.1.2.1
def gt3 (G : Gp) : Nat := G.2.2.2.2.2.1.2.2
def gK (G : Gp) : Nat → Nat := G.2.2.2.2.2.2.1
def gV (G : Gp) : Nat → Nat := G.2.2.2.2.2.2.2
def gT (G : Gp) : List (ClassId × FieldType) := [(gI G, .int), (gC G, .char), (gZ G, .boolean)]
def selOf (v : Int32) : Nat := if v = 0 then 7 else 9
def cellF (G : Gp) (k : Nat) (f : Nat → Int32) : va_E := match k with
  | 0 => .inr (4, [.ref (gh G 1), .ref (gh G 3), .ref (gh G 5), .ref (gh G 11), .ref (gh G 14)])
  | 1 => .inr (1, [.ref (gh G 2), .int (f 1), .int (f 2)])
  | 2 => .inl (gI G, 25, .inl f)
  | 3 => .inr (1, [.ref (gh G 4), .int (f 1), .int (f 2)])
  | 4 => .inl (gI G, 25, .inl f)
  | 5 => .inr (2, [.ref (gh G 6), .ref (gh G 7), .ref (gh G 9), .ref (gh G (selOf (f 3))), .int (f 4), .int (f 5)])
  | 6 => .inl (gC G, 240, .inl f)
  | 7 => .inr (1, [.ref (gh G 8), .int (f 1), .int (f 2)])
  | 8 => .inl (gI G, 25, .inl f)
  | 9 => .inr (1, [.ref (gh G 10), .int (f 1), .int (f 2)])
  | 10 => .inl (gI G, 25, .inl f)
  | 11 => .inr (0, [.ref (gh G 12), .ref (gh G 13), .int (f 2)])
  | 12 => .inl (gI G, 4, .inl f)
  | 13 => .inl (gI G, 108, .inl f)
  | 14 => .inr (3, [.ref (gh G 15), .ref (gh G 16), .int (f 2)])
  | 15 => .inl (gI G, 256, .inl f)
  | 16 => .inl (gZ G, 256, .inl f)
  | 17 => .inr (5, [.int (f 0), .ref (gh G 18), .ref (gh G 19), .ref (gh G 20), .ref (gh G 21), .int (f 5), .ref (gh G 22), .ref (gh G 23), .int (f 8), .int (f 9), .ref (gh G 24)])
  | 18 => .inl (gI G, 240, .inl f)
  | 19 => .inl (gI G, 84, .inl f)
  | 20 => .inl (gI G, 84, .inl f)
  | 21 => .inl (gI G, 336, .inl f)
  | 22 => .inl (gI G, 1024, .inl f)
  | 23 => .inl (gI G, 1024, .inl f)
  | _ => .inl (gI G, 5, .inl f)
def isPol (k : Nat) : Prop := k = 1 ∨ k = 3 ∨ k = 7 ∨ k = 9
theorem isPol.lt {k : Nat} (h : isPol k) : k < 17 := by unfold isPol at h; omega
theorem isPol.lt1 {k : Nat} (h : isPol k) : k + 1 < 17 := by unfold isPol at h; omega
theorem isPol_sel (v : Int32) : isPol (selOf v) := by unfold selOf isPol; split <;> simp
theorem isPol.cell {k : Nat} (h : isPol k) (G : Gp) (f : Nat → Int32) : cellF G k f = .inr (1, [.ref (gh G (k + 1)), .int (f 1), .int (f 2)]) := by
  rcases h with rfl | rfl | rfl | rfl <;> rfl
theorem isPol.row {k : Nat} (h : isPol k) (G : Gp) (f : Nat → Int32) : cellF G (k + 1) f = .inl (gI G, 25, .inl f) := by
  rcases h with rfl | rfl | rfl | rfl <;> rfl
def upR (st : St) (k : Nat) (f : Nat → Int32) : St := fun a => if a = k then f else st a
def up2 (st : St) (k j : Nat) (v : Int32) : St := upR st k (upd (st k) j v)
theorem upR_self (st : St) (k : Nat) (f : Nat → Int32) : upR st k f k = f := if_pos rfl
theorem upR_ne (st : St) {k a : Nat} (f : Nat → Int32) (h : a ≠ k) : upR st k f a = st a := if_neg h
def wld (G : Gp) (st : St) : va_W := (gks G).map (fun k => (gh G k, cellF G k (st k)))
def gOK (G : Gp) : Prop := (gks G).Nodup ∧ (∀ a ∈ gks G, ∀ b ∈ gks G, gh G a = gh G b → a = b) ∧ ∀ a ∈ gks G, gA G (gh G a)
theorem wld_at {G : Gp} {st : St} {k : Nat} (h : k ∈ gks G) : ∃ i : Nat, (gks G)[i]? = some k ∧ (wld G st)[i]? = some (gh G k, cellF G k (st k)) := by
  obtain ⟨i, hi⟩ := List.getElem?_of_mem h
  exact ⟨i, hi, by unfold wld; rw [List.getElem?_map, hi]; rfl⟩
theorem nodup_at : ∀ (l : List Nat), l.Nodup → ∀ (i j a : Nat), l[i]? = some a → l[j]? = some a → i = j := by
  intro l hn i j a h1 h2
  have e1 := (List.getElem?_eq_some_iff.mp h1)
  have e2 := (List.getElem?_eq_some_iff.mp h2)
  obtain ⟨l1, e1⟩ := e1
  obtain ⟨l2, e2⟩ := e2
  exact (List.getElem_inj hn).mp (e1.trans e2.symm)
theorem wld_set {G : Gp} {st : St} {k i : Nat} {f : Nat → Int32} (hO : gOK G) (hi : (gks G)[i]? = some k) : (wld G st).set i (gh G k, cellF G k f) = wld G (upR st k f) := by
  apply List.ext_getElem?
  intro j
  unfold wld
  by_cases hj : j = i
  · subst hj
    have hl : j < ((gks G).map (fun k => (gh G k, cellF G k (st k)))).length := by rw [List.length_map]; exact (List.getElem?_eq_some_iff.mp hi).1
    rw [List.getElem?_set_self hl, List.getElem?_map, hi]
    simp [upR_self]
  · rw [List.getElem?_set_ne (Ne.symm hj), List.getElem?_map, List.getElem?_map]
    cases hq : (gks G)[j]? with
    | none => rfl
    | some a =>
      have ha : a ≠ k := fun e => hj (nodup_at _ hO.1 j i k (by rw [hq, e]) hi)
      simp [upR_ne st f ha]
theorem wld_D {G : Gp} (hO : gOK G) (st : St) : va_D (gA G) (wld G st) := by
  have key : ∀ (i : Nat) (q : Nat × va_E), (wld G st)[i]? = some q → ∃ a, (gks G)[i]? = some a ∧ q.1 = gh G a := by
    intro i q h
    unfold wld at h
    rw [List.getElem?_map] at h
    cases hq : (gks G)[i]? with
    | none => rw [hq] at h; cases h
    | some a => rw [hq] at h; exact ⟨a, rfl, by cases h; rfl⟩
  refine ⟨fun i j x y hx hy hxy => ?_, fun i x hx => ?_⟩
  · obtain ⟨a, h1, h2⟩ := key i x hx
    obtain ⟨b, h3, h4⟩ := key j y hy
    have hab : a = b := hO.2.1 a (List.mem_of_getElem? h1) b (List.mem_of_getElem? h3) (by rw [← h2, ← h4]; exact hxy)
    subst hab
    exact nodup_at _ hO.1 i j a h1 h3
  · obtain ⟨a, h1, h2⟩ := key i x hx
    rw [h2]
    exact hO.2.2 a (List.mem_of_getElem? h1)
-- what the statics and the text constants hold
def vcF (j : Nat) : Int32 := [8, 4, 8, 4].getD j 0
def rsF (j : Nat) : Int32 := [7, 5, 2, 0].getD j 0
def frF (j : Nat) : Int32 := [0, 8, 12, 20].getD j 0
def nSx : Nat := 14
def lenSx : List Nat := [90, 3, 3, 3, 5, 8, 10, 7, 8, 6, 1, 4, 4, 1]
def bytSx : List (List Int32) := [[112, 101, 114, 109, 105, 116, 58, 115, 48, 49, 58, 114, 48, 49, 50, 51, 59, 100, 101, 110, 121, 58, 97, 51, 59, 117, 115, 101, 100, 101, 110, 121, 111, 118, 101, 114, 59, 110, 101, 119, 59, 112, 101, 114, 109, 105, 116, 58, 115, 48, 49, 50, 58, 114, 48, 49, 50, 51, 59, 100, 101, 110, 121, 58, 97, 51, 58, 108, 48, 49, 59, 112, 101, 114, 109, 105, 116, 58, 115, 48, 59, 117, 115, 101, 102, 105, 114, 115, 116, 59], [111, 108, 100], [110, 101, 119], [117, 115, 101], [102, 105, 114, 115, 116], [100, 101, 110, 121, 111, 118, 101, 114], [112, 101, 114, 109, 105, 116, 111, 118, 101, 114], [111, 110, 108, 121, 111, 110, 101], [109, 97, 106, 111, 114, 105, 116, 121], [112, 101, 114, 109, 105, 116], [58], [115, 97, 114, 108], [100, 101, 110, 121], [59]]
def ownSx : Nat → String := fun i => match i with
  | 0 => "PolicyComparer"
  | 1 => "PolicyComparer$PolicyText"
  | 2 => "PolicyComparer$PolicyText"
  | 3 => "PolicyComparer$PolicyText"
  | 4 => "PolicyComparer$PolicyText"
  | 5 => "PolicyComparer$PolicyText"
  | 6 => "PolicyComparer$PolicyText"
  | 7 => "PolicyComparer$PolicyText"
  | 8 => "PolicyComparer$PolicyText"
  | 9 => "PolicyComparer$PolicyText"
  | 10 => "PolicyComparer$PolicyText"
  | 11 => "PolicyComparer$PolicyText"
  | 12 => "PolicyComparer$PolicyText"
  | _ => "PolicyComparer$PolicyText"
def txtSx : Nat → String := fun i => match i with
  | 0 => "permit:s01:r0123;deny:a3;usedenyover;new;permit:s012:r0123;deny:a3:l01;permit:s0;usefirst;"
  | 1 => "old"
  | 2 => "new"
  | 3 => "use"
  | 4 => "first"
  | 5 => "denyover"
  | 6 => "permitover"
  | 7 => "onlyone"
  | 8 => "majority"
  | 9 => "permit"
  | 10 => ":"
  | 11 => "sarl"
  | 12 => "deny"
  | _ => ";"
def idxSx : Nat → Nat := fun i => match i with
  | 0 => 40
  | 1 => 48
  | 2 => 50
  | 3 => 52
  | 4 => 65
  | 5 => 67
  | 6 => 69
  | 7 => 71
  | 8 => 73
  | 9 => 57
  | 10 => 86
  | 11 => 103
  | 12 => 63
  | _ => 42
def gE (G : Gp) (U : State) : Prop :=
  (va_Z "PolicyComparer" "VALUE_COUNT" "[I" (.ref (gt1 G)) (gA G) U U.heap ∧ va_T .int (gt1 G) 4 (fun j => .int (vcF j)) (gA G) U U.heap) ∧
  (va_Z "PolicyComparer" "REQUEST_SHIFT" "[I" (.ref (gt2 G)) (gA G) U U.heap ∧ va_T .int (gt2 G) 4 (fun j => .int (rsF j)) (gA G) U U.heap) ∧
  (va_Z "PolicyComparer$Policy" "FIRST_ROW" "[I" (.ref (gt3 G)) (gA G) U U.heap ∧ va_T .int (gt3 G) 4 (fun j => .int (frF j)) (gA G) U U.heap) ∧
  va_Z "java/lang/String" "COMPACT_STRINGS" "Z" (.int 1) (gA G) U U.heap ∧
  va_Zq "jdk/internal/util/Preconditions" "SIOOBE_FORMATTER" "Ljava/util/function/BiFunction;" (gA G) U U.heap ∧
  vk_S nSx lenSx bytSx (gK G) (gV G) (gA G) U U.heap ∧
  (∀ i : Nat, i < nSx → vk_R (ownSx i) (idxSx i) (txtSx i) (gK G i) U) ∧
  va_Nw (.fieldLinkNest "PolicyComparer$Policy" 45 "PolicyComparer" "VALUE_COUNT" "[I" "PolicyComparer") U ∧
  va_Nw (.fieldLinkNest "PolicyComparer$PolicyText" 91 "PolicyComparer" "VALUE_COUNT" "[I" "PolicyComparer") U ∧
  va_Nw (.methodLinkNest "PolicyComparer" 9 yX1_init "PolicyComparer") U ∧
  va_Nw (.methodLinkNest "PolicyComparer" 21 yX2_init "PolicyComparer") U ∧
  va_Nw (.methodLinkNest "PolicyComparer" 28 yX0_init "PolicyComparer") U ∧
  va_Nw (.methodLinkNest "PolicyComparer" 35 yX3_init "PolicyComparer") U ∧
  va_Nw (.methodLinkNest "PolicyComparer$PolicyText" 17 yX1_init "PolicyComparer") U
theorem gE.pass {G : Gp} {s U : State} {H : Heap} {locs : List Loc} (h : gE G s) (hS : va_S (gA G) s.heap H locs) (hU : U.heap = H) (hW : s.WarmedH U.vm) : gE G U := by
  subst hU
  obtain ⟨⟨a1, a2⟩, ⟨b1, b2⟩, ⟨c1, c2⟩, d, f, k1, k2, n1, n2, n3, n4, n5, n6, n7⟩ := h
  have hq : ∀ a : Nat, a < s.heap.size → ¬ (gA G) a → U.heap[a]? = s.heap[a]? := hS.2.1
  have hv := hW.alike
  exact ⟨⟨(a1.kept hq).moved hv, (a2.kept hq).moved hv⟩, ⟨(b1.kept hq).moved hv, (b2.kept hq).moved hv⟩, ⟨(c1.kept hq).moved hv, (c2.kept hq).moved hv⟩, (d.kept hq).moved hv, (f.kept hq).moved hv, (k1.kept hq).moved hv, fun i hi => (k2 i hi).warm hW, va_Nw.warmF hW n1, va_Nw.warmF hW n2, va_Nw.warmM hW n3, va_Nw.warmM hW n4, va_Nw.warmM hW n5, va_Nw.warmM hW n6, va_Nw.warmM hW n7⟩
theorem gE.same {G : Gp} {u U : State} (hv : U.vm = u.vm) (hh : U.heap = u.heap) (h : gE G u) : gE G U := by
  obtain ⟨⟨a1, a2⟩, ⟨b1, b2⟩, ⟨c1, c2⟩, d, f, k1, k2, n1, n2, n3, n4, n5, n6, n7⟩ := h
  have ha : u.vm.Alike U.vm := by rw [hv]; exact Vm.Alike.refl _
  unfold gE
  rw [hh]
  exact ⟨⟨a1.moved ha, a2.moved ha⟩, ⟨b1.moved ha, b2.moved ha⟩, ⟨c1.moved ha, c2.moved ha⟩, d.moved ha, f.moved ha, k1.moved ha, fun i hi => (k2 i hi).same hv, va_Nw.same rfl hv.symm n1, va_Nw.same rfl hv.symm n2, va_Nw.same rfl hv.symm n3, va_Nw.same rfl hv.symm n4, va_Nw.same rfl hv.symm n5, va_Nw.same rfl hv.symm n6, va_Nw.same rfl hv.symm n7⟩
