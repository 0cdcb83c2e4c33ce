theorem tw_37 : Cond.initialized RX1 ∈ tblG := tblG_in 37 (by decide +kernel) rfl
theorem tw_48 : Cond.initialized RJ6 ∈ tblG := tblG_in 48 (by decide +kernel) rfl
theorem tw_63 : Cond.fieldLink RX1 11 "PolicyComparer$Policy" "rows" "[I" ∈ tblG := tblG_in 63 (by decide +kernel) rfl
theorem tw_64 : Cond.fieldLink RX1 15 "PolicyComparer$Policy" "count" "I" ∈ tblG := tblG_in 64 (by decide +kernel) rfl
theorem tw_65 : Cond.fieldLink RX1 19 "PolicyComparer$Policy" "algorithm" "I" ∈ tblG := tblG_in 65 (by decide +kernel) rfl
theorem tw_222 : Cond.instanceMethod yX1_use ∈ tblG := tblG_in 222 (by decide +kernel) rfl
theorem tw_223 : Cond.selects yX1_use.cls yX1_use yX1_use ∈ tblG := tblG_in 223 (by decide +kernel) rfl
theorem tw_224 : Cond.code yX1_use cX1_use 2 none ∈ tblG := tblG_in 224 (by decide +kernel) rfl
theorem tw_231 : Cond.instanceMethod yX1_size ∈ tblG := tblG_in 231 (by decide +kernel) rfl
theorem tw_232 : Cond.selects yX1_size.cls yX1_size yX1_size ∈ tblG := tblG_in 232 (by decide +kernel) rfl
theorem tw_233 : Cond.code yX1_size cX1_size 1 (some .int) ∈ tblG := tblG_in 233 (by decide +kernel) rfl
theorem tw_235 : Cond.instanceMethod yX1_insertRule ∈ tblG := tblG_in 235 (by decide +kernel) rfl
theorem tw_236 : Cond.selects yX1_insertRule.cls yX1_insertRule yX1_insertRule ∈ tblG := tblG_in 236 (by decide +kernel) rfl
theorem tw_237 : Cond.code yX1_insertRule cX1_insertRule 4 none ∈ tblG := tblG_in 237 (by decide +kernel) rfl
theorem tw_238 : Cond.methodLink RX1 34 yX1_withBitInserted ∈ tblG := tblG_in 238 (by decide +kernel) rfl
theorem tw_239 : Cond.static yX1_withBitInserted ∈ tblG := tblG_in 239 (by decide +kernel) rfl
theorem tw_240 : Cond.code yX1_withBitInserted cX1_withBitInserted 4 (some .int) ∈ tblG := tblG_in 240 (by decide +kernel) rfl
theorem tw_258 : Cond.instanceMethod yX1_restrict ∈ tblG := tblG_in 258 (by decide +kernel) rfl
theorem tw_259 : Cond.selects yX1_restrict.cls yX1_restrict yX1_restrict ∈ tblG := tblG_in 259 (by decide +kernel) rfl
theorem tw_260 : Cond.code yX1_restrict cX1_restrict 7 none ∈ tblG := tblG_in 260 (by decide +kernel) rfl
theorem tw_261 : Cond.fieldLink RX1 42 "PolicyComparer$Policy" "FIRST_ROW" "[I" ∈ tblG := tblG_in 261 (by decide +kernel) rfl
theorem tw_368 : Cond.instanceMethod yX1_dropRule ∈ tblG := tblG_in 368 (by decide +kernel) rfl
theorem tw_369 : Cond.selects yX1_dropRule.cls yX1_dropRule yX1_dropRule ∈ tblG := tblG_in 369 (by decide +kernel) rfl
theorem tw_370 : Cond.code yX1_dropRule cX1_dropRule 3 none ∈ tblG := tblG_in 370 (by decide +kernel) rfl
theorem tw_371 : Cond.methodLink RX1 38 yX1_withBitDropped ∈ tblG := tblG_in 371 (by decide +kernel) rfl
theorem tw_372 : Cond.static yX1_withBitDropped ∈ tblG := tblG_in 372 (by decide +kernel) rfl
theorem tw_373 : Cond.code yX1_withBitDropped cX1_withBitDropped 3 (some .int) ∈ tblG := tblG_in 373 (by decide +kernel) rfl
theorem tw_379 : Cond.instanceMethod yX1_shiftRule ∈ tblG := tblG_in 379 (by decide +kernel) rfl
theorem tw_380 : Cond.selects yX1_shiftRule.cls yX1_shiftRule yX1_shiftRule ∈ tblG := tblG_in 380 (by decide +kernel) rfl
theorem tw_381 : Cond.code yX1_shiftRule cX1_shiftRule 5 none ∈ tblG := tblG_in 381 (by decide +kernel) rfl
theorem tw_383 : Cond.instanceMethod yX1_effectAt ∈ tblG := tblG_in 383 (by decide +kernel) rfl
theorem tw_384 : Cond.selects yX1_effectAt.cls yX1_effectAt yX1_effectAt ∈ tblG := tblG_in 384 (by decide +kernel) rfl
theorem tw_385 : Cond.code yX1_effectAt cX1_effectAt 2 (some .int) ∈ tblG := tblG_in 385 (by decide +kernel) rfl
theorem tw_391 : Cond.instanceMethod yX1_algorithm ∈ tblG := tblG_in 391 (by decide +kernel) rfl
theorem tw_392 : Cond.selects yX1_algorithm.cls yX1_algorithm yX1_algorithm ∈ tblG := tblG_in 392 (by decide +kernel) rfl
theorem tw_393 : Cond.code yX1_algorithm cX1_algorithm 1 (some .int) ∈ tblG := tblG_in 393 (by decide +kernel) rfl
theorem tw_407 : Cond.instanceMethod yX1_valuesAt ∈ tblG := tblG_in 407 (by decide +kernel) rfl
theorem tw_408 : Cond.selects yX1_valuesAt.cls yX1_valuesAt yX1_valuesAt ∈ tblG := tblG_in 408 (by decide +kernel) rfl
theorem tw_409 : Cond.code yX1_valuesAt cX1_valuesAt 6 (some .int) ∈ tblG := tblG_in 409 (by decide +kernel) rfl
theorem tw_416 : Cond.instanceMethod yX1_turnEffect ∈ tblG := tblG_in 416 (by decide +kernel) rfl
theorem tw_417 : Cond.selects yX1_turnEffect.cls yX1_turnEffect yX1_turnEffect ∈ tblG := tblG_in 417 (by decide +kernel) rfl
theorem tw_418 : Cond.code yX1_turnEffect cX1_turnEffect 2 none ∈ tblG := tblG_in 418 (by decide +kernel) rfl
theorem tw_467 : Cond.instanceMethod yX1_decisionOn ∈ tblG := tblG_in 467 (by decide +kernel) rfl
theorem tw_468 : Cond.selects yX1_decisionOn.cls yX1_decisionOn yX1_decisionOn ∈ tblG := tblG_in 468 (by decide +kernel) rfl
theorem tw_469 : Cond.code yX1_decisionOn cX1_decisionOn 2 (some .int) ∈ tblG := tblG_in 469 (by decide +kernel) rfl
theorem tw_470 : Cond.methodLink RX1 48 yX1_applying ∈ tblG := tblG_in 470 (by decide +kernel) rfl
theorem tw_471 : Cond.instanceMethod yX1_applying ∈ tblG := tblG_in 471 (by decide +kernel) rfl
theorem tw_472 : Cond.selects yX1_applying.cls yX1_applying yX1_applying ∈ tblG := tblG_in 472 (by decide +kernel) rfl
theorem tw_473 : Cond.code yX1_applying cX1_applying 2 (some .int) ∈ tblG := tblG_in 473 (by decide +kernel) rfl
theorem tw_474 : Cond.methodLink RX1 52 yX1_decisionAmong ∈ tblG := tblG_in 474 (by decide +kernel) rfl
theorem tw_475 : Cond.instanceMethod yX1_decisionAmong ∈ tblG := tblG_in 475 (by decide +kernel) rfl
theorem tw_476 : Cond.selects yX1_decisionAmong.cls yX1_decisionAmong yX1_decisionAmong ∈ tblG := tblG_in 476 (by decide +kernel) rfl
theorem tw_477 : Cond.code yX1_decisionAmong cX1_decisionAmong 3 (some .int) ∈ tblG := tblG_in 477 (by decide +kernel) rfl
theorem tw_478 : Cond.methodLink RX1 55 yJ6_lowestOneBit_0f7a4 ∈ tblG := tblG_in 478 (by decide +kernel) rfl
theorem tw_479 : Cond.static yJ6_lowestOneBit_0f7a4 ∈ tblG := tblG_in 479 (by decide +kernel) rfl
theorem tw_480 : Cond.code yJ6_lowestOneBit_0f7a4 cJ6_lowestOneBit_0f7a4 1 (some .int) ∈ tblG := tblG_in 480 (by decide +kernel) rfl
theorem tw_481 : Cond.methodLink RX1 60 yJ6_bitCount_0f7a4 ∈ tblG := tblG_in 481 (by decide +kernel) rfl
theorem tw_482 : Cond.static yJ6_bitCount_0f7a4 ∈ tblG := tblG_in 482 (by decide +kernel) rfl
theorem tw_483 : Cond.code yJ6_bitCount_0f7a4 cJ6_bitCount_0f7a4 1 (some .int) ∈ tblG := tblG_in 483 (by decide +kernel) rfl
theorem tw_484 : Cond.constant RJ6 265 1431655765 ∈ tblG := tblG_in 484 (by decide +kernel) rfl
theorem tw_485 : Cond.constant RJ6 266 858993459 ∈ tblG := tblG_in 485 (by decide +kernel) rfl
theorem tw_486 : Cond.constant RJ6 267 252645135 ∈ tblG := tblG_in 486 (by decide +kernel) rfl
theorem tw_487 : Cond.methodLink RX1 63 yX1_majority ∈ tblG := tblG_in 487 (by decide +kernel) rfl
theorem tw_488 : Cond.static yX1_majority ∈ tblG := tblG_in 488 (by decide +kernel) rfl
theorem tw_489 : Cond.code yX1_majority cX1_majority 2 (some .int) ∈ tblG := tblG_in 489 (by decide +kernel) rfl
theorem tw_581 : Cond.instanceMethod yX1_allRules ∈ tblG := tblG_in 581 (by decide +kernel) rfl
theorem tw_582 : Cond.selects yX1_allRules.cls yX1_allRules yX1_allRules ∈ tblG := tblG_in 582 (by decide +kernel) rfl
theorem tw_583 : Cond.code yX1_allRules cX1_allRules 1 (some .int) ∈ tblG := tblG_in 583 (by decide +kernel) rfl
theorem inX0 : ∀ w ∈ wsX00, w ∈ tblG := by decide +kernel
theorem inX1 : ∀ w ∈ wsX10, w ∈ tblG := by decide +kernel
theorem inX2 : ∀ w ∈ wsX20, w ∈ tblG := by decide +kernel
theorem inX3 : ∀ w ∈ wsX30, w ∈ tblG := by decide +kernel
theorem inX4 : ∀ w ∈ wsX40, w ∈ tblG := by decide +kernel
theorem inX5 : ∀ w ∈ wsX50, w ∈ tblG := by decide +kernel
theorem sw_out {x : Int32} (n : Nat) (hn : n < 2 ^ 31) (h : ∀ j : Nat, j < n → ¬ x = Int32.ofNat j) : x.toInt < 0 ∨ (n : Int) ≤ x.toInt := by
  rcases pk_ix x hn with q | q | ⟨j, q, e⟩
  · exact Or.inl (by simpa using Int32.lt_iff_toInt_lt.mp q)
  · exact Or.inr (by have := Int32.le_iff_toInt_le.mp q; rwa [nI_toInt hn] at this)
  · exact absurd e (h j q)
theorem sw3 (x : Int32) : x = 0 ∨ x = 1 ∨ x = 2 ∨ ((¬ x = 0 ∧ ¬ x = 1 ∧ ¬ x = 2) ∧ (x.toInt < 0 ∨ 2 < x.toInt)) := by
  by_cases h0 : x = 0 <;> by_cases h1 : x = 1 <;> by_cases h2 : x = 2 <;> simp only [h0, h1, h2, true_or, or_true, false_or, true_and, not_false_eq_true]
  rcases sw_out (x := x) 3 (by decide) (fun j hj => by rcases (show j = 0 ∨ j = 1 ∨ j = 2 by omega) with rfl | rfl | rfl <;> assumption) with q | q
  · exact Or.inl q
  · exact Or.inr (by omega)
theorem sw4 (x : Int32) : x = 0 ∨ x = 1 ∨ x = 2 ∨ x = 3 ∨ ((¬ x = 0 ∧ ¬ x = 1 ∧ ¬ x = 2 ∧ ¬ x = 3) ∧ (x.toInt < 0 ∨ 3 < x.toInt)) := by
  by_cases h0 : x = 0 <;> by_cases h1 : x = 1 <;> by_cases h2 : x = 2 <;> by_cases h3 : x = 3 <;> simp only [h0, h1, h2, h3, true_or, or_true, false_or, true_and, not_false_eq_true]
  rcases sw_out (x := x) 4 (by decide) (fun j hj => by rcases (show j = 0 ∨ j = 1 ∨ j = 2 ∨ j = 3 by omega) with rfl | rfl | rfl | rfl <;> assumption) with q | q
  · exact Or.inl q
  · exact Or.inr (by omega)
theorem kJ6_bitCount_0f7a4 : Ks yJ6_bitCount_0f7a4 cJ6_bitCount_0f7a4 1 (some .int) 1 := ⟨⟨tw_483, tw_48, by decide +kernel⟩, tw_482⟩
theorem kJ6_lowestOneBit_0f7a4 : Ks yJ6_lowestOneBit_0f7a4 cJ6_lowestOneBit_0f7a4 1 (some .int) 1 := ⟨⟨tw_480, tw_48, by decide +kernel⟩, tw_479⟩
theorem kX1_size : Kv yX1_size cX1_size 1 (some .int) 0 := ⟨⟨tw_233, tw_37, by decide +kernel⟩, tw_231, tw_232⟩
theorem kX1_algorithm : Kv yX1_algorithm cX1_algorithm 1 (some .int) 0 := ⟨⟨tw_393, tw_37, by decide +kernel⟩, tw_391, tw_392⟩
theorem kX1_use : Kv yX1_use cX1_use 2 none 1 := ⟨⟨tw_224, tw_37, by decide +kernel⟩, tw_222, tw_223⟩
theorem kX1_withBitInserted : Ks yX1_withBitInserted cX1_withBitInserted 4 (some .int) 3 := ⟨⟨tw_240, tw_37, by decide +kernel⟩, tw_239⟩
theorem kX1_withBitDropped : Ks yX1_withBitDropped cX1_withBitDropped 3 (some .int) 2 := ⟨⟨tw_373, tw_37, by decide +kernel⟩, tw_372⟩
theorem kX1_majority : Ks yX1_majority cX1_majority 2 (some .int) 2 := ⟨⟨tw_489, tw_37, by decide +kernel⟩, tw_488⟩
theorem kX1_insertRule : Kv yX1_insertRule cX1_insertRule 4 none 2 := ⟨⟨tw_237, tw_37, by decide +kernel⟩, tw_235, tw_236⟩
theorem kX1_dropRule : Kv yX1_dropRule cX1_dropRule 3 none 1 := ⟨⟨tw_370, tw_37, by decide +kernel⟩, tw_368, tw_369⟩
theorem kX1_shiftRule : Kv yX1_shiftRule cX1_shiftRule 5 none 2 := ⟨⟨tw_381, tw_37, by decide +kernel⟩, tw_379, tw_380⟩
theorem kX1_restrict : Kv yX1_restrict cX1_restrict 7 none 3 := ⟨⟨tw_260, tw_37, by decide +kernel⟩, tw_258, tw_259⟩
theorem kX1_valuesAt : Kv yX1_valuesAt cX1_valuesAt 6 (some .int) 2 := ⟨⟨tw_409, tw_37, by decide +kernel⟩, tw_407, tw_408⟩
theorem kX1_turnEffect : Kv yX1_turnEffect cX1_turnEffect 2 none 1 := ⟨⟨tw_418, tw_37, by decide +kernel⟩, tw_416, tw_417⟩
theorem kX1_effectAt : Kv yX1_effectAt cX1_effectAt 2 (some .int) 1 := ⟨⟨tw_385, tw_37, by decide +kernel⟩, tw_383, tw_384⟩
theorem kX1_allRules : Kv yX1_allRules cX1_allRules 1 (some .int) 0 := ⟨⟨tw_583, tw_37, by decide +kernel⟩, tw_581, tw_582⟩
theorem kX1_applying : Kv yX1_applying cX1_applying 2 (some .int) 1 := ⟨⟨tw_473, tw_37, by decide +kernel⟩, tw_471, tw_472⟩
theorem kX1_decisionAmong : Kv yX1_decisionAmong cX1_decisionAmong 3 (some .int) 1 := ⟨⟨tw_477, tw_37, by decide +kernel⟩, tw_475, tw_476⟩
theorem kX1_decisionOn : Kv yX1_decisionOn cX1_decisionOn 2 (some .int) 1 := ⟨⟨tw_469, tw_37, by decide +kernel⟩, tw_467, tw_468⟩
