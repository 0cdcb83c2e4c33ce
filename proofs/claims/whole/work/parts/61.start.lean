def flN : List Cond := flatC (Jvm.Cond.and given_1 narrow_1)
def tmS (i : Nat) : Term := Term.string (ownSx i) (idxSx i)
set_option maxRecDepth 100000 in
theorem se_0 : (flN.drop 34).take 90 = (List.range 90).map (fun j => Cond.eq (.elem (.field (tmS 0) "java/lang/String" "value" "[B") (.int (Int32.ofNat j))) (.int ((bytSx.getD 0 []).getD j 0))) := by rfl
set_option maxRecDepth 100000 in
theorem sh_0 : (Cond.exactly (tmS 0) "java/lang/String" ∈ flN ∧ Cond.eq (.field (tmS 0) "java/lang/String" "coder" "B") (.int 0) ∈ flN) ∧ Cond.arrayOf (.field (tmS 0) "java/lang/String" "value" "[B") .byte ∈ flN ∧ Cond.eq (.length (.field (tmS 0) "java/lang/String" "value" "[B")) (.int (Int32.ofNat (lenSx.getD 0 0))) ∈ flN := ⟨⟨(List.mem_of_getElem? (i := 30) (by rfl)), (List.mem_of_getElem? (i := 31) (by rfl))⟩, (List.mem_of_getElem? (i := 32) (by rfl)), (List.mem_of_getElem? (i := 33) (by rfl))⟩
set_option maxRecDepth 100000 in
theorem se_1 : (flN.drop 128).take 3 = (List.range 3).map (fun j => Cond.eq (.elem (.field (tmS 1) "java/lang/String" "value" "[B") (.int (Int32.ofNat j))) (.int ((bytSx.getD 1 []).getD j 0))) := by rfl
set_option maxRecDepth 100000 in
theorem sh_1 : (Cond.exactly (tmS 1) "java/lang/String" ∈ flN ∧ Cond.eq (.field (tmS 1) "java/lang/String" "coder" "B") (.int 0) ∈ flN) ∧ Cond.arrayOf (.field (tmS 1) "java/lang/String" "value" "[B") .byte ∈ flN ∧ Cond.eq (.length (.field (tmS 1) "java/lang/String" "value" "[B")) (.int (Int32.ofNat (lenSx.getD 1 0))) ∈ flN := ⟨⟨(List.mem_of_getElem? (i := 124) (by rfl)), (List.mem_of_getElem? (i := 125) (by rfl))⟩, (List.mem_of_getElem? (i := 126) (by rfl)), (List.mem_of_getElem? (i := 127) (by rfl))⟩
set_option maxRecDepth 100000 in
theorem se_2 : (flN.drop 136).take 3 = (List.range 3).map (fun j => Cond.eq (.elem (.field (tmS 2) "java/lang/String" "value" "[B") (.int (Int32.ofNat j))) (.int ((bytSx.getD 2 []).getD j 0))) := by rfl
set_option maxRecDepth 100000 in
theorem sh_2 : (Cond.exactly (tmS 2) "java/lang/String" ∈ flN ∧ Cond.eq (.field (tmS 2) "java/lang/String" "coder" "B") (.int 0) ∈ flN) ∧ Cond.arrayOf (.field (tmS 2) "java/lang/String" "value" "[B") .byte ∈ flN ∧ Cond.eq (.length (.field (tmS 2) "java/lang/String" "value" "[B")) (.int (Int32.ofNat (lenSx.getD 2 0))) ∈ flN := ⟨⟨(List.mem_of_getElem? (i := 132) (by rfl)), (List.mem_of_getElem? (i := 133) (by rfl))⟩, (List.mem_of_getElem? (i := 134) (by rfl)), (List.mem_of_getElem? (i := 135) (by rfl))⟩
set_option maxRecDepth 100000 in
theorem se_3 : (flN.drop 145).take 3 = (List.range 3).map (fun j => Cond.eq (.elem (.field (tmS 3) "java/lang/String" "value" "[B") (.int (Int32.ofNat j))) (.int ((bytSx.getD 3 []).getD j 0))) := by rfl
set_option maxRecDepth 100000 in
theorem sh_3 : (Cond.exactly (tmS 3) "java/lang/String" ∈ flN ∧ Cond.eq (.field (tmS 3) "java/lang/String" "coder" "B") (.int 0) ∈ flN) ∧ Cond.arrayOf (.field (tmS 3) "java/lang/String" "value" "[B") .byte ∈ flN ∧ Cond.eq (.length (.field (tmS 3) "java/lang/String" "value" "[B")) (.int (Int32.ofNat (lenSx.getD 3 0))) ∈ flN := ⟨⟨(List.mem_of_getElem? (i := 141) (by rfl)), (List.mem_of_getElem? (i := 142) (by rfl))⟩, (List.mem_of_getElem? (i := 143) (by rfl)), (List.mem_of_getElem? (i := 144) (by rfl))⟩
set_option maxRecDepth 100000 in
theorem se_4 : (flN.drop 155).take 5 = (List.range 5).map (fun j => Cond.eq (.elem (.field (tmS 4) "java/lang/String" "value" "[B") (.int (Int32.ofNat j))) (.int ((bytSx.getD 4 []).getD j 0))) := by rfl
set_option maxRecDepth 100000 in
theorem sh_4 : (Cond.exactly (tmS 4) "java/lang/String" ∈ flN ∧ Cond.eq (.field (tmS 4) "java/lang/String" "coder" "B") (.int 0) ∈ flN) ∧ Cond.arrayOf (.field (tmS 4) "java/lang/String" "value" "[B") .byte ∈ flN ∧ Cond.eq (.length (.field (tmS 4) "java/lang/String" "value" "[B")) (.int (Int32.ofNat (lenSx.getD 4 0))) ∈ flN := ⟨⟨(List.mem_of_getElem? (i := 151) (by rfl)), (List.mem_of_getElem? (i := 152) (by rfl))⟩, (List.mem_of_getElem? (i := 153) (by rfl)), (List.mem_of_getElem? (i := 154) (by rfl))⟩
set_option maxRecDepth 100000 in
theorem se_5 : (flN.drop 168).take 8 = (List.range 8).map (fun j => Cond.eq (.elem (.field (tmS 5) "java/lang/String" "value" "[B") (.int (Int32.ofNat j))) (.int ((bytSx.getD 5 []).getD j 0))) := by rfl
set_option maxRecDepth 100000 in
theorem sh_5 : (Cond.exactly (tmS 5) "java/lang/String" ∈ flN ∧ Cond.eq (.field (tmS 5) "java/lang/String" "coder" "B") (.int 0) ∈ flN) ∧ Cond.arrayOf (.field (tmS 5) "java/lang/String" "value" "[B") .byte ∈ flN ∧ Cond.eq (.length (.field (tmS 5) "java/lang/String" "value" "[B")) (.int (Int32.ofNat (lenSx.getD 5 0))) ∈ flN := ⟨⟨(List.mem_of_getElem? (i := 164) (by rfl)), (List.mem_of_getElem? (i := 165) (by rfl))⟩, (List.mem_of_getElem? (i := 166) (by rfl)), (List.mem_of_getElem? (i := 167) (by rfl))⟩
set_option maxRecDepth 100000 in
theorem se_6 : (flN.drop 185).take 10 = (List.range 10).map (fun j => Cond.eq (.elem (.field (tmS 6) "java/lang/String" "value" "[B") (.int (Int32.ofNat j))) (.int ((bytSx.getD 6 []).getD j 0))) := by rfl
set_option maxRecDepth 100000 in
theorem sh_6 : (Cond.exactly (tmS 6) "java/lang/String" ∈ flN ∧ Cond.eq (.field (tmS 6) "java/lang/String" "coder" "B") (.int 0) ∈ flN) ∧ Cond.arrayOf (.field (tmS 6) "java/lang/String" "value" "[B") .byte ∈ flN ∧ Cond.eq (.length (.field (tmS 6) "java/lang/String" "value" "[B")) (.int (Int32.ofNat (lenSx.getD 6 0))) ∈ flN := ⟨⟨(List.mem_of_getElem? (i := 181) (by rfl)), (List.mem_of_getElem? (i := 182) (by rfl))⟩, (List.mem_of_getElem? (i := 183) (by rfl)), (List.mem_of_getElem? (i := 184) (by rfl))⟩
set_option maxRecDepth 100000 in
theorem se_7 : (flN.drop 205).take 7 = (List.range 7).map (fun j => Cond.eq (.elem (.field (tmS 7) "java/lang/String" "value" "[B") (.int (Int32.ofNat j))) (.int ((bytSx.getD 7 []).getD j 0))) := by rfl
set_option maxRecDepth 100000 in
theorem sh_7 : (Cond.exactly (tmS 7) "java/lang/String" ∈ flN ∧ Cond.eq (.field (tmS 7) "java/lang/String" "coder" "B") (.int 0) ∈ flN) ∧ Cond.arrayOf (.field (tmS 7) "java/lang/String" "value" "[B") .byte ∈ flN ∧ Cond.eq (.length (.field (tmS 7) "java/lang/String" "value" "[B")) (.int (Int32.ofNat (lenSx.getD 7 0))) ∈ flN := ⟨⟨(List.mem_of_getElem? (i := 201) (by rfl)), (List.mem_of_getElem? (i := 202) (by rfl))⟩, (List.mem_of_getElem? (i := 203) (by rfl)), (List.mem_of_getElem? (i := 204) (by rfl))⟩
set_option maxRecDepth 100000 in
theorem se_8 : (flN.drop 223).take 8 = (List.range 8).map (fun j => Cond.eq (.elem (.field (tmS 8) "java/lang/String" "value" "[B") (.int (Int32.ofNat j))) (.int ((bytSx.getD 8 []).getD j 0))) := by rfl
set_option maxRecDepth 100000 in
theorem sh_8 : (Cond.exactly (tmS 8) "java/lang/String" ∈ flN ∧ Cond.eq (.field (tmS 8) "java/lang/String" "coder" "B") (.int 0) ∈ flN) ∧ Cond.arrayOf (.field (tmS 8) "java/lang/String" "value" "[B") .byte ∈ flN ∧ Cond.eq (.length (.field (tmS 8) "java/lang/String" "value" "[B")) (.int (Int32.ofNat (lenSx.getD 8 0))) ∈ flN := ⟨⟨(List.mem_of_getElem? (i := 219) (by rfl)), (List.mem_of_getElem? (i := 220) (by rfl))⟩, (List.mem_of_getElem? (i := 221) (by rfl)), (List.mem_of_getElem? (i := 222) (by rfl))⟩
set_option maxRecDepth 100000 in
theorem se_9 : (flN.drop 243).take 6 = (List.range 6).map (fun j => Cond.eq (.elem (.field (tmS 9) "java/lang/String" "value" "[B") (.int (Int32.ofNat j))) (.int ((bytSx.getD 9 []).getD j 0))) := by rfl
set_option maxRecDepth 100000 in
theorem sh_9 : (Cond.exactly (tmS 9) "java/lang/String" ∈ flN ∧ Cond.eq (.field (tmS 9) "java/lang/String" "coder" "B") (.int 0) ∈ flN) ∧ Cond.arrayOf (.field (tmS 9) "java/lang/String" "value" "[B") .byte ∈ flN ∧ Cond.eq (.length (.field (tmS 9) "java/lang/String" "value" "[B")) (.int (Int32.ofNat (lenSx.getD 9 0))) ∈ flN := ⟨⟨(List.mem_of_getElem? (i := 239) (by rfl)), (List.mem_of_getElem? (i := 240) (by rfl))⟩, (List.mem_of_getElem? (i := 241) (by rfl)), (List.mem_of_getElem? (i := 242) (by rfl))⟩
set_option maxRecDepth 100000 in
theorem se_10 : (flN.drop 262).take 1 = (List.range 1).map (fun j => Cond.eq (.elem (.field (tmS 10) "java/lang/String" "value" "[B") (.int (Int32.ofNat j))) (.int ((bytSx.getD 10 []).getD j 0))) := by rfl
set_option maxRecDepth 100000 in
theorem sh_10 : (Cond.exactly (tmS 10) "java/lang/String" ∈ flN ∧ Cond.eq (.field (tmS 10) "java/lang/String" "coder" "B") (.int 0) ∈ flN) ∧ Cond.arrayOf (.field (tmS 10) "java/lang/String" "value" "[B") .byte ∈ flN ∧ Cond.eq (.length (.field (tmS 10) "java/lang/String" "value" "[B")) (.int (Int32.ofNat (lenSx.getD 10 0))) ∈ flN := ⟨⟨(List.mem_of_getElem? (i := 258) (by rfl)), (List.mem_of_getElem? (i := 259) (by rfl))⟩, (List.mem_of_getElem? (i := 260) (by rfl)), (List.mem_of_getElem? (i := 261) (by rfl))⟩
set_option maxRecDepth 100000 in
theorem se_11 : (flN.drop 277).take 4 = (List.range 4).map (fun j => Cond.eq (.elem (.field (tmS 11) "java/lang/String" "value" "[B") (.int (Int32.ofNat j))) (.int ((bytSx.getD 11 []).getD j 0))) := by rfl
set_option maxRecDepth 100000 in
theorem sh_11 : (Cond.exactly (tmS 11) "java/lang/String" ∈ flN ∧ Cond.eq (.field (tmS 11) "java/lang/String" "coder" "B") (.int 0) ∈ flN) ∧ Cond.arrayOf (.field (tmS 11) "java/lang/String" "value" "[B") .byte ∈ flN ∧ Cond.eq (.length (.field (tmS 11) "java/lang/String" "value" "[B")) (.int (Int32.ofNat (lenSx.getD 11 0))) ∈ flN := ⟨⟨(List.mem_of_getElem? (i := 273) (by rfl)), (List.mem_of_getElem? (i := 274) (by rfl))⟩, (List.mem_of_getElem? (i := 275) (by rfl)), (List.mem_of_getElem? (i := 276) (by rfl))⟩
set_option maxRecDepth 100000 in
theorem se_12 : (flN.drop 296).take 4 = (List.range 4).map (fun j => Cond.eq (.elem (.field (tmS 12) "java/lang/String" "value" "[B") (.int (Int32.ofNat j))) (.int ((bytSx.getD 12 []).getD j 0))) := by rfl
set_option maxRecDepth 100000 in
theorem sh_12 : (Cond.exactly (tmS 12) "java/lang/String" ∈ flN ∧ Cond.eq (.field (tmS 12) "java/lang/String" "coder" "B") (.int 0) ∈ flN) ∧ Cond.arrayOf (.field (tmS 12) "java/lang/String" "value" "[B") .byte ∈ flN ∧ Cond.eq (.length (.field (tmS 12) "java/lang/String" "value" "[B")) (.int (Int32.ofNat (lenSx.getD 12 0))) ∈ flN := ⟨⟨(List.mem_of_getElem? (i := 292) (by rfl)), (List.mem_of_getElem? (i := 293) (by rfl))⟩, (List.mem_of_getElem? (i := 294) (by rfl)), (List.mem_of_getElem? (i := 295) (by rfl))⟩
set_option maxRecDepth 100000 in
theorem se_13 : (flN.drop 316).take 1 = (List.range 1).map (fun j => Cond.eq (.elem (.field (tmS 13) "java/lang/String" "value" "[B") (.int (Int32.ofNat j))) (.int ((bytSx.getD 13 []).getD j 0))) := by rfl
set_option maxRecDepth 100000 in
theorem sh_13 : (Cond.exactly (tmS 13) "java/lang/String" ∈ flN ∧ Cond.eq (.field (tmS 13) "java/lang/String" "coder" "B") (.int 0) ∈ flN) ∧ Cond.arrayOf (.field (tmS 13) "java/lang/String" "value" "[B") .byte ∈ flN ∧ Cond.eq (.length (.field (tmS 13) "java/lang/String" "value" "[B")) (.int (Int32.ofNat (lenSx.getD 13 0))) ∈ flN := ⟨⟨(List.mem_of_getElem? (i := 312) (by rfl)), (List.mem_of_getElem? (i := 313) (by rfl))⟩, (List.mem_of_getElem? (i := 314) (by rfl)), (List.mem_of_getElem? (i := 315) (by rfl))⟩
def neP0 : List (Nat × Nat) := [(0, 1)]
set_option maxRecDepth 100000 in
theorem se_n0 : (flN.drop 131).take 1 = neP0.map (fun q => Cond.not (Cond.eq (tmS q.1) (tmS q.2))) := by rfl
def neP1 : List (Nat × Nat) := [(0, 2), (1, 2)]
set_option maxRecDepth 100000 in
theorem se_n1 : (flN.drop 139).take 2 = neP1.map (fun q => Cond.not (Cond.eq (tmS q.1) (tmS q.2))) := by rfl
def neP2 : List (Nat × Nat) := [(0, 3), (1, 3), (2, 3)]
set_option maxRecDepth 100000 in
theorem se_n2 : (flN.drop 148).take 3 = neP2.map (fun q => Cond.not (Cond.eq (tmS q.1) (tmS q.2))) := by rfl
def neP3 : List (Nat × Nat) := [(0, 4), (1, 4), (2, 4), (3, 4)]
set_option maxRecDepth 100000 in
theorem se_n3 : (flN.drop 160).take 4 = neP3.map (fun q => Cond.not (Cond.eq (tmS q.1) (tmS q.2))) := by rfl
def neP4 : List (Nat × Nat) := [(0, 5), (1, 5), (2, 5), (3, 5), (4, 5)]
set_option maxRecDepth 100000 in
theorem se_n4 : (flN.drop 176).take 5 = neP4.map (fun q => Cond.not (Cond.eq (tmS q.1) (tmS q.2))) := by rfl
def neP5 : List (Nat × Nat) := [(0, 6), (1, 6), (2, 6), (3, 6), (4, 6), (5, 6)]
set_option maxRecDepth 100000 in
theorem se_n5 : (flN.drop 195).take 6 = neP5.map (fun q => Cond.not (Cond.eq (tmS q.1) (tmS q.2))) := by rfl
def neP6 : List (Nat × Nat) := [(0, 7), (1, 7), (2, 7), (3, 7), (4, 7), (5, 7), (6, 7)]
set_option maxRecDepth 100000 in
theorem se_n6 : (flN.drop 212).take 7 = neP6.map (fun q => Cond.not (Cond.eq (tmS q.1) (tmS q.2))) := by rfl
def neP7 : List (Nat × Nat) := [(0, 8), (1, 8), (2, 8), (3, 8), (4, 8), (5, 8), (6, 8), (7, 8)]
set_option maxRecDepth 100000 in
theorem se_n7 : (flN.drop 231).take 8 = neP7.map (fun q => Cond.not (Cond.eq (tmS q.1) (tmS q.2))) := by rfl
def neP8 : List (Nat × Nat) := [(0, 9), (1, 9), (2, 9), (3, 9), (4, 9), (5, 9), (6, 9), (7, 9), (8, 9)]
set_option maxRecDepth 100000 in
theorem se_n8 : (flN.drop 249).take 9 = neP8.map (fun q => Cond.not (Cond.eq (tmS q.1) (tmS q.2))) := by rfl
def neP9 : List (Nat × Nat) := [(0, 10), (1, 10), (2, 10), (3, 10), (4, 10), (5, 10), (6, 10), (7, 10), (8, 10), (9, 10)]
set_option maxRecDepth 100000 in
theorem se_n9 : (flN.drop 263).take 10 = neP9.map (fun q => Cond.not (Cond.eq (tmS q.1) (tmS q.2))) := by rfl
def neP10 : List (Nat × Nat) := [(0, 11), (1, 11), (2, 11), (3, 11), (4, 11), (5, 11), (6, 11), (7, 11), (8, 11), (9, 11), (10, 11)]
set_option maxRecDepth 100000 in
theorem se_n10 : (flN.drop 281).take 11 = neP10.map (fun q => Cond.not (Cond.eq (tmS q.1) (tmS q.2))) := by rfl
def neP11 : List (Nat × Nat) := [(0, 12), (1, 12), (2, 12), (3, 12), (4, 12), (5, 12), (6, 12), (7, 12), (8, 12), (9, 12), (10, 12), (11, 12)]
set_option maxRecDepth 100000 in
theorem se_n11 : (flN.drop 300).take 12 = neP11.map (fun q => Cond.not (Cond.eq (tmS q.1) (tmS q.2))) := by rfl
def neP12 : List (Nat × Nat) := [(0, 13), (1, 13), (2, 13), (3, 13), (4, 13), (5, 13), (6, 13), (7, 13), (8, 13), (9, 13), (10, 13), (11, 13), (12, 13)]
set_option maxRecDepth 100000 in
theorem se_n12 : (flN.drop 317).take 13 = neP12.map (fun q => Cond.not (Cond.eq (tmS q.1) (tmS q.2))) := by rfl
def nePs : List (Nat × Nat) := neP0 ++ (neP1 ++ (neP2 ++ (neP3 ++ (neP4 ++ (neP5 ++ (neP6 ++ (neP7 ++ (neP8 ++ (neP9 ++ (neP10 ++ (neP11 ++ (neP12))))))))))))
set_option maxRecDepth 100000 in
theorem nePs_b : ∀ i, i < 14 → ∀ j, j < 14 → i ≠ j → (nePs.any (fun q => Nat.beq q.1 i && Nat.beq q.2 j) = true ∨ nePs.any (fun q => Nat.beq q.1 j && Nat.beq q.2 i) = true) := by decide +kernel
set_option maxRecDepth 100000 in
theorem any_in {i j : Nat} (h : nePs.any (fun q => Nat.beq q.1 i && Nat.beq q.2 j) = true) : (i, j) ∈ nePs := by
  obtain ⟨q, hq, hb⟩ := List.any_eq_true.mp h
  rw [Bool.and_eq_true] at hb
  rw [← Nat.eq_of_beq_eq_true hb.1, ← Nat.eq_of_beq_eq_true hb.2]; exact hq
set_option maxRecDepth 100000 in
theorem nePs_all (i : Nat) (hi : i < 14) (j : Nat) (hj : j < 14) (h : i ≠ j) : (i, j) ∈ nePs ∨ (j, i) ∈ nePs := (nePs_b i hi j hj h).elim (fun q => Or.inl (any_in q)) (fun q => Or.inr (any_in q))
set_option maxRecDepth 100000 in
theorem fl_t1 : Cond.arrayOf (.static "PolicyComparer" "VALUE_COUNT" "[I") .int ∈ flN ∧ Cond.eq (.length (.static "PolicyComparer" "VALUE_COUNT" "[I")) (.int (Int32.ofNat 4)) ∈ flN ∧ ∀ j, j < 4 → Cond.eq (.elem (.static "PolicyComparer" "VALUE_COUNT" "[I") (.int (Int32.ofNat j))) (.int (vcF j)) ∈ flN := ⟨(List.mem_of_getElem? (i := 10) (by rfl)), (List.mem_of_getElem? (i := 11) (by rfl)), fun j hj => by
  rcases (show j = 0 ∨ j = 1 ∨ j = 2 ∨ j = 3 by omega) with rfl | rfl | rfl | rfl
  · exact (List.mem_of_getElem? (i := 12) (by rfl))
  · exact (List.mem_of_getElem? (i := 13) (by rfl))
  · exact (List.mem_of_getElem? (i := 14) (by rfl))
  · exact (List.mem_of_getElem? (i := 15) (by rfl))⟩
set_option maxRecDepth 100000 in
theorem fl_t2 : Cond.arrayOf (.static "PolicyComparer" "REQUEST_SHIFT" "[I") .int ∈ flN ∧ Cond.eq (.length (.static "PolicyComparer" "REQUEST_SHIFT" "[I")) (.int (Int32.ofNat 4)) ∈ flN ∧ ∀ j, j < 4 → Cond.eq (.elem (.static "PolicyComparer" "REQUEST_SHIFT" "[I") (.int (Int32.ofNat j))) (.int (rsF j)) ∈ flN := ⟨(List.mem_of_getElem? (i := 24) (by rfl)), (List.mem_of_getElem? (i := 25) (by rfl)), fun j hj => by
  rcases (show j = 0 ∨ j = 1 ∨ j = 2 ∨ j = 3 by omega) with rfl | rfl | rfl | rfl
  · exact (List.mem_of_getElem? (i := 26) (by rfl))
  · exact (List.mem_of_getElem? (i := 27) (by rfl))
  · exact (List.mem_of_getElem? (i := 28) (by rfl))
  · exact (List.mem_of_getElem? (i := 29) (by rfl))⟩
set_option maxRecDepth 100000 in
theorem fl_t3 : Cond.arrayOf (.static "PolicyComparer$Policy" "FIRST_ROW" "[I") .int ∈ flN ∧ Cond.eq (.length (.static "PolicyComparer$Policy" "FIRST_ROW" "[I")) (.int (Int32.ofNat 4)) ∈ flN ∧ ∀ j, j < 4 → Cond.eq (.elem (.static "PolicyComparer$Policy" "FIRST_ROW" "[I") (.int (Int32.ofNat j))) (.int (frF j)) ∈ flN := ⟨(List.mem_of_getElem? (i := 17) (by rfl)), (List.mem_of_getElem? (i := 18) (by rfl)), fun j hj => by
  rcases (show j = 0 ∨ j = 1 ∨ j = 2 ∨ j = 3 by omega) with rfl | rfl | rfl | rfl
  · exact (List.mem_of_getElem? (i := 19) (by rfl))
  · exact (List.mem_of_getElem? (i := 20) (by rfl))
  · exact (List.mem_of_getElem? (i := 21) (by rfl))
  · exact (List.mem_of_getElem? (i := 22) (by rfl))⟩
set_option maxRecDepth 100000 in
theorem fl_cs : Cond.eq (.static "java/lang/String" "COMPACT_STRINGS" "Z") (.int 1) ∈ flN := (List.mem_of_getElem? (i := 4) (by rfl))
set_option maxRecDepth 100000 in
theorem fl_sf : Cond.isRef (.static "jdk/internal/util/Preconditions" "SIOOBE_FORMATTER" "Ljava/util/function/BiFunction;") ∈ flN := (List.mem_of_getElem? (i := 5) (by rfl))
set_option maxRecDepth 100000 in
theorem fl_sh : ∀ i, i < 14 → (Cond.exactly (tmS i) "java/lang/String" ∈ flN ∧ Cond.eq (.field (tmS i) "java/lang/String" "coder" "B") (.int 0) ∈ flN) ∧ Cond.arrayOf (.field (tmS i) "java/lang/String" "value" "[B") .byte ∈ flN ∧ Cond.eq (.length (.field (tmS i) "java/lang/String" "value" "[B")) (.int (Int32.ofNat (lenSx.getD i 0))) ∈ flN := by
  intro i hi
  rcases (show i = 0 ∨ i = 1 ∨ i = 2 ∨ i = 3 ∨ i = 4 ∨ i = 5 ∨ i = 6 ∨ i = 7 ∨ i = 8 ∨ i = 9 ∨ i = 10 ∨ i = 11 ∨ i = 12 ∨ i = 13 by omega) with rfl | rfl | rfl | rfl | rfl | rfl | rfl | rfl | rfl | rfl | rfl | rfl | rfl | rfl
  · exact sh_0
  · exact sh_1
  · exact sh_2
  · exact sh_3
  · exact sh_4
  · exact sh_5
  · exact sh_6
  · exact sh_7
  · exact sh_8
  · exact sh_9
  · exact sh_10
  · exact sh_11
  · exact sh_12
  · exact sh_13
set_option maxRecDepth 100000 in
theorem seg_in {F : Nat → Cond} {k n j : Nat} (h : (flN.drop k).take n = (List.range n).map F) (hj : j < n) : F j ∈ flN := List.mem_of_mem_drop (List.mem_of_mem_take (h ▸ List.mem_map.mpr ⟨j, List.mem_range.mpr hj, rfl⟩))
set_option maxRecDepth 100000 in
theorem fl_el : ∀ i, i < 14 → ∀ j, j < lenSx.getD i 0 → Cond.eq (.elem (.field (tmS i) "java/lang/String" "value" "[B") (.int (Int32.ofNat j))) (.int ((bytSx.getD i []).getD j 0)) ∈ flN := by
  intro i hi j hj
  rcases (show i = 0 ∨ i = 1 ∨ i = 2 ∨ i = 3 ∨ i = 4 ∨ i = 5 ∨ i = 6 ∨ i = 7 ∨ i = 8 ∨ i = 9 ∨ i = 10 ∨ i = 11 ∨ i = 12 ∨ i = 13 by omega) with rfl | rfl | rfl | rfl | rfl | rfl | rfl | rfl | rfl | rfl | rfl | rfl | rfl | rfl
  · exact seg_in se_0 hj
  · exact seg_in se_1 hj
  · exact seg_in se_2 hj
  · exact seg_in se_3 hj
  · exact seg_in se_4 hj
  · exact seg_in se_5 hj
  · exact seg_in se_6 hj
  · exact seg_in se_7 hj
  · exact seg_in se_8 hj
  · exact seg_in se_9 hj
  · exact seg_in se_10 hj
  · exact seg_in se_11 hj
  · exact seg_in se_12 hj
  · exact seg_in se_13 hj
set_option maxRecDepth 100000 in
theorem fl_ne : ∀ i j, i < 14 → j < 14 → i ≠ j → Cond.not (Cond.eq (tmS i) (tmS j)) ∈ flN ∨ Cond.not (Cond.eq (tmS j) (tmS i)) ∈ flN := by
  intro i j hi hj hij
  have key : ∀ a b, (a, b) ∈ nePs → Cond.not (Cond.eq (tmS a) (tmS b)) ∈ flN := by
    intro a b h
    unfold nePs at h
    simp only [List.mem_append] at h
    rcases h with h | h | h | h | h | h | h | h | h | h | h | h | h
    · exact List.mem_of_mem_drop (List.mem_of_mem_take (se_n0 ▸ List.mem_map.mpr ⟨(a, b), h, rfl⟩))
    · exact List.mem_of_mem_drop (List.mem_of_mem_take (se_n1 ▸ List.mem_map.mpr ⟨(a, b), h, rfl⟩))
    · exact List.mem_of_mem_drop (List.mem_of_mem_take (se_n2 ▸ List.mem_map.mpr ⟨(a, b), h, rfl⟩))
    · exact List.mem_of_mem_drop (List.mem_of_mem_take (se_n3 ▸ List.mem_map.mpr ⟨(a, b), h, rfl⟩))
    · exact List.mem_of_mem_drop (List.mem_of_mem_take (se_n4 ▸ List.mem_map.mpr ⟨(a, b), h, rfl⟩))
    · exact List.mem_of_mem_drop (List.mem_of_mem_take (se_n5 ▸ List.mem_map.mpr ⟨(a, b), h, rfl⟩))
    · exact List.mem_of_mem_drop (List.mem_of_mem_take (se_n6 ▸ List.mem_map.mpr ⟨(a, b), h, rfl⟩))
    · exact List.mem_of_mem_drop (List.mem_of_mem_take (se_n7 ▸ List.mem_map.mpr ⟨(a, b), h, rfl⟩))
    · exact List.mem_of_mem_drop (List.mem_of_mem_take (se_n8 ▸ List.mem_map.mpr ⟨(a, b), h, rfl⟩))
    · exact List.mem_of_mem_drop (List.mem_of_mem_take (se_n9 ▸ List.mem_map.mpr ⟨(a, b), h, rfl⟩))
    · exact List.mem_of_mem_drop (List.mem_of_mem_take (se_n10 ▸ List.mem_map.mpr ⟨(a, b), h, rfl⟩))
    · exact List.mem_of_mem_drop (List.mem_of_mem_take (se_n11 ▸ List.mem_map.mpr ⟨(a, b), h, rfl⟩))
    · exact List.mem_of_mem_drop (List.mem_of_mem_take (se_n12 ▸ List.mem_map.mpr ⟨(a, b), h, rfl⟩))
  rcases nePs_all i hi j hj hij with h | h
  · exact Or.inl (key _ _ h)
  · exact Or.inr (key _ _ h)
def sxW : List Nat := [135, 203, 210, 211, 216, 217, 218, 219, 220, 225, 241, 246, 264, 265]
set_option maxRecDepth 100000 in
theorem sx_0 : lw_tbl[sxW.getD 0 0]? = some (Cond.stringRef (ownSx 0) (idxSx 0) (txtSx 0)) := by rfl
set_option maxRecDepth 100000 in
theorem sx_1 : lw_tbl[sxW.getD 1 0]? = some (Cond.stringRef (ownSx 1) (idxSx 1) (txtSx 1)) := by rfl
set_option maxRecDepth 100000 in
theorem sx_2 : lw_tbl[sxW.getD 2 0]? = some (Cond.stringRef (ownSx 2) (idxSx 2) (txtSx 2)) := by rfl
set_option maxRecDepth 100000 in
theorem sx_3 : lw_tbl[sxW.getD 3 0]? = some (Cond.stringRef (ownSx 3) (idxSx 3) (txtSx 3)) := by rfl
set_option maxRecDepth 100000 in
theorem sx_4 : lw_tbl[sxW.getD 4 0]? = some (Cond.stringRef (ownSx 4) (idxSx 4) (txtSx 4)) := by rfl
set_option maxRecDepth 100000 in
theorem sx_5 : lw_tbl[sxW.getD 5 0]? = some (Cond.stringRef (ownSx 5) (idxSx 5) (txtSx 5)) := by rfl
set_option maxRecDepth 100000 in
theorem sx_6 : lw_tbl[sxW.getD 6 0]? = some (Cond.stringRef (ownSx 6) (idxSx 6) (txtSx 6)) := by rfl
set_option maxRecDepth 100000 in
theorem sx_7 : lw_tbl[sxW.getD 7 0]? = some (Cond.stringRef (ownSx 7) (idxSx 7) (txtSx 7)) := by rfl
set_option maxRecDepth 100000 in
theorem sx_8 : lw_tbl[sxW.getD 8 0]? = some (Cond.stringRef (ownSx 8) (idxSx 8) (txtSx 8)) := by rfl
set_option maxRecDepth 100000 in
theorem sx_9 : lw_tbl[sxW.getD 9 0]? = some (Cond.stringRef (ownSx 9) (idxSx 9) (txtSx 9)) := by rfl
set_option maxRecDepth 100000 in
theorem sx_10 : lw_tbl[sxW.getD 10 0]? = some (Cond.stringRef (ownSx 10) (idxSx 10) (txtSx 10)) := by rfl
set_option maxRecDepth 100000 in
theorem sx_11 : lw_tbl[sxW.getD 11 0]? = some (Cond.stringRef (ownSx 11) (idxSx 11) (txtSx 11)) := by rfl
set_option maxRecDepth 100000 in
theorem sx_12 : lw_tbl[sxW.getD 12 0]? = some (Cond.stringRef (ownSx 12) (idxSx 12) (txtSx 12)) := by rfl
set_option maxRecDepth 100000 in
theorem sx_13 : lw_tbl[sxW.getD 13 0]? = some (Cond.stringRef (ownSx 13) (idxSx 13) (txtSx 13)) := by rfl
set_option maxRecDepth 100000 in
theorem sx_in : ∀ i, i < 14 → lw_tbl[sxW.getD i 0]? = some (Cond.stringRef (ownSx i) (idxSx i) (txtSx i)) := by
  intro i hi
  rcases (show i = 0 ∨ i = 1 ∨ i = 2 ∨ i = 3 ∨ i = 4 ∨ i = 5 ∨ i = 6 ∨ i = 7 ∨ i = 8 ∨ i = 9 ∨ i = 10 ∨ i = 11 ∨ i = 12 ∨ i = 13 by omega) with rfl | rfl | rfl | rfl | rfl | rfl | rfl | rfl | rfl | rfl | rfl | rfl | rfl | rfl
  · exact sx_0
  · exact sx_1
  · exact sx_2
  · exact sx_3
  · exact sx_4
  · exact sx_5
  · exact sx_6
  · exact sx_7
  · exact sx_8
  · exact sx_9
  · exact sx_10
  · exact sx_11
  · exact sx_12
  · exact sx_13
set_option maxRecDepth 100000 in
theorem arr_of {s : State} {args : Array Value} {ty : FieldType} (h : (Cond.arrayClass ty).before args s = true) (hty : ∀ cA, s.vm.findClass ("[" ++ ty.toString) = some cA → va_RA s cA ty) : ∃ cA, ArrOfT s cA ty ∧ va_RA s cA ty := by
  obtain ⟨cA, kA, comp, h1, h2, h3⟩ := Cond.arrayClass_spec h
  exact ⟨cA, fun n z => ⟨fun k h => (by cases h), kA, h2, comp, h3⟩, hty cA h1⟩
