set_option maxHeartbeats 4000000 in
set_option maxRecDepth 100000 in
theorem whole_start {p : Program} {e : Env} {s : State} {m : MethodId} {below : List Frame} {meth : Method} {c : Code} (l : Launch) (hflags : l.flags = flags0) {b L : Nat} {xs : Nat → Int32} (hL : L ≤ 2560) (C0 : lw_At p s m meth c b L xs) : W p l e room_1 s m #[Value.ref b] below meth c s.heap [] 0 0 (lw_Z below #[Value.ref b] s) (entryFrame m ([Value.ref b] : List Value).toArray 4) := by
  obtain ⟨hx, hb, hr, hml, hown, hts, hX, hbl, hlocks, hgv⟩ := id C0
  have hfl : ∀ w ∈ flN, w.before #[Value.ref b] s = true := flat_of_before _ hgv
  have htG : ∀ w ∈ tblG, w.before #[Value.ref b] s = true := fun w hw => hts w (List.mem_filter.mp hw).1
  have hA0 : ∀ a : Nat, a < s.heap.size → ¬ (fun q : Nat => s.heap.size ≤ q) a := fun a h => Nat.not_le.mpr h
  obtain ⟨c0, iS0, hKn0⟩ := u_known (C := RX0) (T := TX0) (N := 3) (n := 3) htG inX0 (htG _ tw_103)
  obtain ⟨c1, iS1, hKn1⟩ := u_known (C := RX1) (T := TX1) (N := 3) (n := 3) htG inX1 (htG _ tw_58)
  obtain ⟨c2, iS2, hKn2⟩ := u_known (C := RX2) (T := TX2) (N := 6) (n := 6) htG inX2 (htG _ tw_75)
  obtain ⟨c3, iS3, hKn3⟩ := u_known (C := RX3) (T := TX3) (N := 3) (n := 3) htG inX3 (htG _ tw_119)
  obtain ⟨c4, iS4, hKn4⟩ := u_known (C := RX4) (T := TX4) (N := 5) (n := 5) htG inX4 (htG _ tw_50)
  obtain ⟨c5, iS5, hKn5⟩ := u_known (C := RX5) (T := TX5) (N := 11) (n := 11) htG inX5 (htG _ tw_606)
  obtain ⟨dC, dI, hKc⟩ : ∃ (dC : Nat → ClassId) (dI : Nat → Nat → Nat), ∀ (k : Nat) (q : vw_C), vwCl[k]? = some q → u_Kn s q.1 q.2.1 q.2.2 (dC k) (dI k) := by
    refine ⟨fun k => match k with | 0 => c0 | 1 => c1 | 2 => c2 | 3 => c3 | 4 => c4 | _ => c5, fun k => match k with | 0 => iS0 | 1 => iS1 | 2 => iS2 | 3 => iS3 | 4 => iS4 | _ => iS5, ?_⟩
    intro k q hq
    match k, hq with
    | 0, hq => cases hq; exact hKn0
    | 1, hq => cases hq; exact hKn1
    | 2, hq => cases hq; exact hKn2
    | 3, hq => cases hq; exact hKn3
    | 4, hq => cases hq; exact hKn4
    | 5, hq => cases hq; exact hKn5
    | k + 6, hq => simp [vwCl] at hq
  obtain ⟨cI, aI, rI⟩ := arr_of (ty := .int) (htG _ tw_73) (fun _ h => h)
  obtain ⟨cC, aC, rC⟩ := arr_of (ty := .char) (htG _ tw_101) (fun _ h => h)
  obtain ⟨cZ, aZ, rZ⟩ := arr_of (ty := .boolean) (htG _ tw_134) (fun _ h => h)
  obtain ⟨t1, ht1, hT1⟩ := va_Tof (tm := .static "PolicyComparer" "VALUE_COUNT" "[I") (ty := .int) (N := 4) (f := fun j => .int (vcF j)) (A := fun q : Nat => s.heap.size ≤ q) (by decide) (hfl _ fl_t1.1) (va_eqt (hfl _ fl_t1.2.1)) (fun j hj => va_eqt (hfl _ (fl_t1.2.2 j hj))) hA0
  have hZ1 := va_Zof (A := fun q : Nat => s.heap.size ≤ q) (hts _ (List.mem_of_getElem? (i := 252) (by rfl))) (hts _ (List.mem_of_getElem? (i := 36) (by rfl))) ht1 hA0
  obtain ⟨t2, ht2, hT2⟩ := va_Tof (tm := .static "PolicyComparer" "REQUEST_SHIFT" "[I") (ty := .int) (N := 4) (f := fun j => .int (rsF j)) (A := fun q : Nat => s.heap.size ≤ q) (by decide) (hfl _ fl_t2.1) (va_eqt (hfl _ fl_t2.2.1)) (fun j hj => va_eqt (hfl _ (fl_t2.2.2 j hj))) hA0
  have hZ2 := va_Zof (A := fun q : Nat => s.heap.size ≤ q) (hts _ (List.mem_of_getElem? (i := 528) (by rfl))) (hts _ (List.mem_of_getElem? (i := 36) (by rfl))) ht2 hA0
  obtain ⟨t3, ht3, hT3⟩ := va_Tof (tm := .static "PolicyComparer$Policy" "FIRST_ROW" "[I") (ty := .int) (N := 4) (f := fun j => .int (frF j)) (A := fun q : Nat => s.heap.size ≤ q) (by decide) (hfl _ fl_t3.1) (va_eqt (hfl _ fl_t3.2.1)) (fun j hj => va_eqt (hfl _ (fl_t3.2.2 j hj))) hA0
  have hZ3 := va_Zof (A := fun q : Nat => s.heap.size ≤ q) (hts _ (List.mem_of_getElem? (i := 262) (by rfl))) (hts _ (List.mem_of_getElem? (i := 37) (by rfl))) ht3 hA0
  have hZ4 := va_Zof (A := fun q : Nat => s.heap.size ≤ q) (hts _ (List.mem_of_getElem? (i := 145) (by rfl))) (hts _ (List.mem_of_getElem? (i := 41) (by rfl))) (va_eqt (hfl _ fl_cs)) hA0
  have hZ5 := va_Zqof (A := fun q : Nat => s.heap.size ≤ q) (hts _ (List.mem_of_getElem? (i := 161) (by rfl))) (hts _ (List.mem_of_getElem? (i := 43) (by rfl))) (hfl _ fl_sf) hA0
  obtain ⟨K, V, hSx, hev⟩ := vk_Sof (args := #[Value.ref b]) (s := s) (N := nSx) (tm := tmS) (len := lenSx) (byt := bytSx) (A := fun q : Nat => s.heap.size ≤ q) (by decide) (fun i hi => hfl _ (fl_sh i hi).1.1) (fun i hi => hfl _ (fl_sh i hi).1.2) (fun i hi => hfl _ (fl_sh i hi).2.1) (fun i hi => hfl _ (fl_sh i hi).2.2) (fun i hi j hj => hfl _ (fl_el i hi j hj)) (fun i j hi hj hij => (fl_ne i j hi hj hij).elim (fun h => Or.inl (hfl _ h)) (fun h => Or.inr (hfl _ h))) hA0
  have hRx : ∀ i : Nat, i < nSx → vk_R (ownSx i) (idxSx i) (txtSx i) (K i) s := fun i hi => vk_R.of (hts _ (List.mem_of_getElem? (sx_in i hi))) (hev i hi)
  obtain ⟨G, hG⟩ : ∃ G : Gp, G = ((dC, dI), (cI, cC, cZ), (fun _ => 0), (fun q : Nat => s.heap.size ≤ q), [], (t1, t2, t3), K, V) := ⟨_, rfl⟩
  have hO : gOK G := by
    rw [hG]
    exact ⟨List.nodup_nil, fun a h => absurd h List.not_mem_nil, fun a h => absurd h List.not_mem_nil⟩
  have hA : ∀ q, s.heap.size ≤ q → gA G q := by rw [hG]; exact fun _ h => h
  have hA' : ∀ q, gA G q → s.heap.size ≤ q := by rw [hG]; exact fun _ h => h
  have hbA : ¬ gA G b := fun h => absurd (hA' _ h) (Nat.not_le.mpr hbl)
  have hK : va_K (gD G) vwCl (gT G) s := by
    rw [hG]
    refine ⟨hKc, fun k q h => ?_⟩
    match k, h with
    | 0, h => cases h; exact ⟨aI, rI⟩
    | 1, h => cases h; exact ⟨aC, rC⟩
    | 2, h => cases h; exact ⟨aZ, rZ⟩
    | k + 3, h => simp [gT] at h
  have hE : gE G s := by
    rw [hG]
    exact ⟨⟨hZ1, hT1⟩, ⟨hZ2, hT2⟩, ⟨hZ3, hT3⟩, hZ4, hZ5, hSx, hRx, va_Nw.of rfl (hts _ (List.mem_of_getElem? (i := 263) (by rfl))), va_Nw.of rfl (hts _ (List.mem_of_getElem? (i := 251) (by rfl))), va_Nw.of rfl (hts _ (List.mem_of_getElem? (i := 59) (by rfl))), va_Nw.of rfl (hts _ (List.mem_of_getElem? (i := 76) (by rfl))), va_Nw.of rfl (hts _ (List.mem_of_getElem? (i := 104) (by rfl))), va_Nw.of rfl (hts _ (List.mem_of_getElem? (i := 120) (by rfl))), va_Nw.of rfl (hts _ (List.mem_of_getElem? (i := 81) (by rfl)))⟩
  have C : Cx p s m #[Value.ref b] c cL_law 4 RL G 0 0 := ⟨hx, hb, hml, hown, htG, hK, hE, hO, fun k h1 h2 => absurd h2 (by omega)⟩
  clear hG
  have hl := lv_entry [.ref b] (n := 4) (Nat.le_of_ble_eq_true rfl)
  rw [lg_entry_eq]
  have main : WR p l e room_1 s m #[Value.ref b] below meth c 0 0 (lw_Z below #[Value.ref b] s) G [] 4 0 [(0, .ref b)] [] [] := by
    refine r_new (ci := 4) (fs := [.null, .null, .null, .null, .null]) C hA inX4 tyX4_ok tw_49 tw_50 tw_36 rfl (by decide) (Nat.le_of_ble_eq_true rfl) (Nat.le_of_ble_eq_true rfl) dL_law_0 (fun a => ?_)
    refine r_dup C dL_law_3 ?_
    refine r_ctorP (rm := { frames := 8, cells := 16, slots := 988, locals := 175 }) (mc := 16) (ms := 988) (ny := 2) (wl := fun u => wld (gMk G u.1 (List.range 17)) u.2) C hA (n_X4_init l G hO a i_X4) tw_53 tw_36 (by decide +kernel) rfl tw_52 tw_51 rfl rfl ⟨Nat.le_of_ble_eq_true rfl, Nat.le_of_ble_eq_true rfl⟩ (Nat.le_of_ble_eq_true rfl) dL_law_4 ⟨Nat.le_of_ble_eq_true rfl, Nat.le_of_ble_eq_true rfl⟩ (fun u hu => ?_)
    obtain ⟨h0, hO1, hC1⟩ := hu
    have next : WR p l e room_1 s m #[Value.ref b] below meth c 17 993 (lw_Z below #[Value.ref b] s) G (wld (gMk G u.1 (List.range 17)) u.2) 4 7 [(0, .ref b)] [.ref a] [] := by
      refine r_astore (lv' := [(1, .ref a), (0, .ref b)]) C dL_law_7 rfl (by decide) rfl ?_
      refine r_new (ci := 5) (fs := [.int 0, .null, .null, .null, .null, .int 0, .null, .null, .int 0, .int 0, .null]) C hA inX5 tyX5_ok tw_605 tw_606 tw_47 rfl (by decide) (Nat.le_of_ble_eq_true rfl) (Nat.le_of_ble_eq_true rfl) dL_law_8 (fun b2 => ?_)
      refine r_dup C dL_law_11 ?_
      refine r_ctorP (rm := { frames := 1, cells := 7, slots := 2797, locals := 28 }) (mc := 7) (ms := 2797) (ny := 1) (wl := fun u => wld (gMk G u.1 (List.range 25)) u.2) C hA (n_X5_init l G hO u.1 u.2 b2 (i_X5 hC1)) tw_609 tw_47 (by decide +kernel) rfl tw_608 tw_607 rfl rfl ⟨Nat.le_of_ble_eq_true rfl, Nat.le_of_ble_eq_true rfl⟩ (Nat.le_of_ble_eq_true rfl) dL_law_12 ⟨Nat.le_of_ble_eq_true rfl, Nat.le_of_ble_eq_true rfl⟩ (fun v hv => ?_)
      obtain ⟨⟨hk17, h17⟩, hO2, hI⟩ := hv
      have C2 : Cx p s m #[Value.ref b] c cL_law 4 RL (gMk G v.1 (List.range 25)) 0 25 := C.mk2 hO2 (Nat.le_refl _)
      have fin : WG p l e room_1 s m #[Value.ref b] below meth c 25 3801 (lw_Z below #[Value.ref b] s) (gMk G v.1 (List.range 25)) 4 15 [(1, .ref a), (0, .ref b)] [.ref b2] v.2 := by
        refine g_astore_n (lv' := [(2, .ref b2), (1, .ref a), (0, .ref b)]) C2 dL_law_15 rfl (by decide) rfl ?_
        refine g_iconst C2 0 dL_law_16 rfl ?_
        refine g_istore_n (lv' := [(3, .int 0), (2, .ref b2), (1, .ref a), (0, .ref b)]) C2 dL_law_17 rfl (by decide) rfl ?_
        refine g_perm [3, 2, 1, 0] rfl ?_
        have loop := law_loop (below := below) (e := e) l (gMk G v.1 (List.range 25)) hO2 (fun k _ h => List.mem_range.mpr (by omega)) (fun k _ h => List.mem_range.mpr h) C2 ⟨hX, hbl, hbA⟩ hr hlocks hA' (wpL_ok hL hI)
        rw [show gh (gMk G v.1 (List.range 25)) 0 = a from (hk17 0 (by omega)).trans h0, show gh (gMk G v.1 (List.range 25)) 17 = b2 from h17] at loop
        exact loop
      exact fun H locs ls hP hS hl => fin H locs ls hP hS hl
    exact fun H locs ls hP hS hl => next H locs ls (by rw [List.append_nil]; exact hP) (by rw [List.append_nil]; exact wld_D hO1 u.2) hS hl
  exact main s.heap [] _ (fun k q h => by simp at h) ⟨fun i j p q h => by simp at h, fun k q h => by simp at h⟩ va_S.rf hl
