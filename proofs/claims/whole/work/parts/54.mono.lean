theorem m_arr {C C' A A' : Prop} (f : C' → C) (g : A → A') (h : C → A) : C' → A' := fun c => g (h (f c))
theorem m_all {α : Sort _} {A B : α → Prop} (f : ∀ x, A x → B x) (g : ∀ x, A x) : ∀ x, B x := fun x => f x (g x)
theorem mono_J0_length_8abf5 {i0 : Nat} {st : St} {Q Q' : Int32 → St → Prop} (h : ∀ x0_ x1_, Q x0_ x1_ → Q' x0_ x1_) : wp_J0_length_8abf5 i0 st Q → wp_J0_length_8abf5 i0 st Q' := by
  unfold wp_J0_length_8abf5
  repeat' first | with_reducible exact h _ _ | with_reducible exact id | with_reducible refine And.imp ?_ ?_ | with_reducible refine m_arr ?_ ?_ | with_reducible refine m_all (fun _ => ?_)
theorem mono_J0_charAt_5068e {i0 : Nat} {x1 : Int32} {st : St} {Q Q' : Int32 → St → Prop} (h : ∀ x0_ x1_, Q x0_ x1_ → Q' x0_ x1_) : wp_J0_charAt_5068e i0 x1 st Q → wp_J0_charAt_5068e i0 x1 st Q' := by
  unfold wp_J0_charAt_5068e
  repeat' first | with_reducible exact h _ _ | with_reducible exact id | with_reducible refine And.imp ?_ ?_ | with_reducible refine m_arr ?_ ?_ | with_reducible refine m_all (fun _ => ?_)
theorem mono_J6_bitCount_0f7a4 {x0 : Int32} {st : St} {Q Q' : Int32 → St → Prop} (h : ∀ x0_ x1_, Q x0_ x1_ → Q' x0_ x1_) : wp_J6_bitCount_0f7a4 x0 st Q → wp_J6_bitCount_0f7a4 x0 st Q' := by
  unfold wp_J6_bitCount_0f7a4
  repeat' first | with_reducible exact h _ _ | with_reducible exact id | with_reducible refine And.imp ?_ ?_ | with_reducible refine m_arr ?_ ?_ | with_reducible refine m_all (fun _ => ?_)
theorem mono_J6_lowestOneBit_0f7a4 {x0 : Int32} {st : St} {Q Q' : Int32 → St → Prop} (h : ∀ x0_ x1_, Q x0_ x1_ → Q' x0_ x1_) : wp_J6_lowestOneBit_0f7a4 x0 st Q → wp_J6_lowestOneBit_0f7a4 x0 st Q' := by
  unfold wp_J6_lowestOneBit_0f7a4
  repeat' first | with_reducible exact h _ _ | with_reducible exact id | with_reducible refine And.imp ?_ ?_ | with_reducible refine m_arr ?_ ?_ | with_reducible refine m_all (fun _ => ?_)
theorem mono_J6_numberOfLeadingZeros_0f7a4 {x0 : Int32} {st : St} {Q Q' : Int32 → St → Prop} (h : ∀ x0_ x1_, Q x0_ x1_ → Q' x0_ x1_) : wp_J6_numberOfLeadingZeros_0f7a4 x0 st Q → wp_J6_numberOfLeadingZeros_0f7a4 x0 st Q' := by
  unfold wp_J6_numberOfLeadingZeros_0f7a4
  repeat' first | with_reducible exact h _ _ | with_reducible exact id | with_reducible refine And.imp ?_ ?_ | with_reducible refine m_arr ?_ ?_ | with_reducible refine m_all (fun _ => ?_)
theorem mono_J7_fill_53178 {k0 : Nat} {x1 : Int32} {st : St} {Q Q' : St → Prop} (h : ∀ x0_, Q x0_ → Q' x0_) : wp_J7_fill_53178 k0 x1 st Q → wp_J7_fill_53178 k0 x1 st Q' := by
  unfold wp_J7_fill_53178
  repeat' first | with_reducible exact h _ | with_reducible exact id | with_reducible refine And.imp ?_ ?_ | with_reducible refine m_arr ?_ ?_ | with_reducible refine m_all (fun _ => ?_)
theorem mono_X1_size {k0 : Nat} {st : St} {Q Q' : Int32 → St → Prop} (h : ∀ x0_ x1_, Q x0_ x1_ → Q' x0_ x1_) : wp_X1_size k0 st Q → wp_X1_size k0 st Q' := by
  unfold wp_X1_size
  repeat' first | with_reducible exact h _ _ | with_reducible exact id | with_reducible refine And.imp ?_ ?_ | with_reducible refine m_arr ?_ ?_ | with_reducible refine m_all (fun _ => ?_)
theorem mono_X1_algorithm {k0 : Nat} {st : St} {Q Q' : Int32 → St → Prop} (h : ∀ x0_ x1_, Q x0_ x1_ → Q' x0_ x1_) : wp_X1_algorithm k0 st Q → wp_X1_algorithm k0 st Q' := by
  unfold wp_X1_algorithm
  repeat' first | with_reducible exact h _ _ | with_reducible exact id | with_reducible refine And.imp ?_ ?_ | with_reducible refine m_arr ?_ ?_ | with_reducible refine m_all (fun _ => ?_)
theorem mono_X1_use {k0 : Nat} {x1 : Int32} {st : St} {Q Q' : St → Prop} (h : ∀ x0_, Q x0_ → Q' x0_) : wp_X1_use k0 x1 st Q → wp_X1_use k0 x1 st Q' := by
  unfold wp_X1_use
  repeat' first | with_reducible exact h _ | with_reducible exact id | with_reducible refine And.imp ?_ ?_ | with_reducible refine m_arr ?_ ?_ | with_reducible refine m_all (fun _ => ?_)
theorem mono_X1_empty {k0 : Nat} {st : St} {Q Q' : St → Prop} (h : ∀ x0_, Q x0_ → Q' x0_) : wp_X1_empty k0 st Q → wp_X1_empty k0 st Q' := by
  unfold wp_X1_empty
  repeat' first | with_reducible exact h _ | with_reducible exact id | with_reducible refine And.imp ?_ ?_ | with_reducible refine mono_J7_fill_53178 (fun _ => ?_) | with_reducible refine m_arr ?_ ?_ | with_reducible refine m_all (fun _ => ?_)
theorem mono_X1_copyFrom {k0 : Nat} {k1 : Nat} {st : St} {Q Q' : St → Prop} (h : ∀ x0_, Q x0_ → Q' x0_) : wp_X1_copyFrom k0 k1 st Q → wp_X1_copyFrom k0 k1 st Q' := by
  unfold wp_X1_copyFrom
  repeat' first | with_reducible exact h _ | with_reducible exact id | with_reducible refine And.imp ?_ ?_ | with_reducible refine m_arr ?_ ?_ | with_reducible refine m_all (fun _ => ?_)
theorem mono_X1_saveInto {k0 : Nat} {x2 : Int32} {st : St} {Q Q' : St → Prop} (h : ∀ x0_, Q x0_ → Q' x0_) : wp_X1_saveInto k0 x2 st Q → wp_X1_saveInto k0 x2 st Q' := by
  unfold wp_X1_saveInto
  repeat' first | with_reducible exact h _ | with_reducible exact id | with_reducible refine And.imp ?_ ?_ | with_reducible refine m_arr ?_ ?_ | with_reducible refine m_all (fun _ => ?_)
theorem mono_X1_restoreFrom {k0 : Nat} {x2 : Int32} {st : St} {Q Q' : St → Prop} (h : ∀ x0_, Q x0_ → Q' x0_) : wp_X1_restoreFrom k0 x2 st Q → wp_X1_restoreFrom k0 x2 st Q' := by
  unfold wp_X1_restoreFrom
  repeat' first | with_reducible exact h _ | with_reducible exact id | with_reducible refine And.imp ?_ ?_ | with_reducible refine m_arr ?_ ?_ | with_reducible refine m_all (fun _ => ?_)
theorem mono_X1_withBitInserted {x0 : Int32} {x1 : Int32} {x2 : Int32} {st : St} {Q Q' : Int32 → St → Prop} (h : ∀ x0_ x1_, Q x0_ x1_ → Q' x0_ x1_) : wp_X1_withBitInserted x0 x1 x2 st Q → wp_X1_withBitInserted x0 x1 x2 st Q' := by
  unfold wp_X1_withBitInserted
  repeat' first | with_reducible exact h _ _ | with_reducible exact id | with_reducible refine And.imp ?_ ?_ | with_reducible refine m_arr ?_ ?_ | with_reducible refine m_all (fun _ => ?_)
theorem mono_X1_withBitDropped {x0 : Int32} {x1 : Int32} {st : St} {Q Q' : Int32 → St → Prop} (h : ∀ x0_ x1_, Q x0_ x1_ → Q' x0_ x1_) : wp_X1_withBitDropped x0 x1 st Q → wp_X1_withBitDropped x0 x1 st Q' := by
  unfold wp_X1_withBitDropped
  repeat' first | with_reducible exact h _ _ | with_reducible exact id | with_reducible refine And.imp ?_ ?_ | with_reducible refine m_arr ?_ ?_ | with_reducible refine m_all (fun _ => ?_)
theorem mono_X1_majority {x0 : Int32} {x1 : Int32} {st : St} {Q Q' : Int32 → St → Prop} (h : ∀ x0_ x1_, Q x0_ x1_ → Q' x0_ x1_) : wp_X1_majority x0 x1 st Q → wp_X1_majority x0 x1 st Q' := by
  unfold wp_X1_majority
  repeat' first | with_reducible exact h _ _ | with_reducible exact id | with_reducible refine And.imp ?_ ?_ | with_reducible refine m_arr ?_ ?_ | with_reducible refine m_all (fun _ => ?_)
theorem mono_X1_insertRule {k0 : Nat} {x1 : Int32} {x2 : Int32} {st : St} {Q Q' : St → Prop} (h : ∀ x0_, Q x0_ → Q' x0_) : wp_X1_insertRule k0 x1 x2 st Q → wp_X1_insertRule k0 x1 x2 st Q' := by
  unfold wp_X1_insertRule
  repeat' first | with_reducible exact h _ | with_reducible exact id | with_reducible refine And.imp ?_ ?_ | with_reducible refine mono_X1_withBitInserted (fun _ _ => ?_) | with_reducible refine m_arr ?_ ?_ | with_reducible refine m_all (fun _ => ?_)
theorem mono_X1_dropRule {k0 : Nat} {x1 : Int32} {st : St} {Q Q' : St → Prop} (h : ∀ x0_, Q x0_ → Q' x0_) : wp_X1_dropRule k0 x1 st Q → wp_X1_dropRule k0 x1 st Q' := by
  unfold wp_X1_dropRule
  repeat' first | with_reducible exact h _ | with_reducible exact id | with_reducible refine And.imp ?_ ?_ | with_reducible refine mono_X1_withBitDropped (fun _ _ => ?_) | with_reducible refine m_arr ?_ ?_ | with_reducible refine m_all (fun _ => ?_)
theorem mono_X1_shiftRule {k0 : Nat} {x1 : Int32} {x2 : Int32} {st : St} {Q Q' : St → Prop} (h : ∀ x0_, Q x0_ → Q' x0_) : wp_X1_shiftRule k0 x1 x2 st Q → wp_X1_shiftRule k0 x1 x2 st Q' := by
  unfold wp_X1_shiftRule
  repeat' first | with_reducible exact h _ | with_reducible exact id | with_reducible refine And.imp ?_ ?_ | with_reducible refine mono_X1_withBitDropped (fun _ _ => ?_) | with_reducible refine mono_X1_withBitInserted (fun _ _ => ?_) | with_reducible refine m_arr ?_ ?_ | with_reducible refine m_all (fun _ => ?_)
theorem mono_X1_restrict {k0 : Nat} {x1 : Int32} {x2 : Int32} {x3 : Int32} {st : St} {Q Q' : St → Prop} (h : ∀ x0_, Q x0_ → Q' x0_) : wp_X1_restrict k0 x1 x2 x3 st Q → wp_X1_restrict k0 x1 x2 x3 st Q' := by
  unfold wp_X1_restrict
  repeat' first | with_reducible exact h _ | with_reducible exact id | with_reducible refine And.imp ?_ ?_ | with_reducible refine m_arr ?_ ?_ | with_reducible refine m_all (fun _ => ?_)
theorem mono_X1_valuesAt {k0 : Nat} {x1 : Int32} {x2 : Int32} {st : St} {Q Q' : Int32 → St → Prop} (h : ∀ x0_ x1_, Q x0_ x1_ → Q' x0_ x1_) : wp_X1_valuesAt k0 x1 x2 st Q → wp_X1_valuesAt k0 x1 x2 st Q' := by
  unfold wp_X1_valuesAt
  repeat' first | with_reducible exact h _ _ | with_reducible exact id | with_reducible refine And.imp ?_ ?_ | with_reducible refine m_arr ?_ ?_ | with_reducible refine m_all (fun _ => ?_)
theorem mono_X1_turnEffect {k0 : Nat} {x1 : Int32} {st : St} {Q Q' : St → Prop} (h : ∀ x0_, Q x0_ → Q' x0_) : wp_X1_turnEffect k0 x1 st Q → wp_X1_turnEffect k0 x1 st Q' := by
  unfold wp_X1_turnEffect
  repeat' first | with_reducible exact h _ | with_reducible exact id | with_reducible refine And.imp ?_ ?_ | with_reducible refine m_arr ?_ ?_ | with_reducible refine m_all (fun _ => ?_)
theorem mono_X1_effectAt {k0 : Nat} {x1 : Int32} {st : St} {Q Q' : Int32 → St → Prop} (h : ∀ x0_ x1_, Q x0_ x1_ → Q' x0_ x1_) : wp_X1_effectAt k0 x1 st Q → wp_X1_effectAt k0 x1 st Q' := by
  unfold wp_X1_effectAt
  repeat' first | with_reducible exact h _ _ | with_reducible exact id | with_reducible refine And.imp ?_ ?_ | with_reducible refine m_arr ?_ ?_ | with_reducible refine m_all (fun _ => ?_)
theorem mono_X1_allRules {k0 : Nat} {st : St} {Q Q' : Int32 → St → Prop} (h : ∀ x0_ x1_, Q x0_ x1_ → Q' x0_ x1_) : wp_X1_allRules k0 st Q → wp_X1_allRules k0 st Q' := by
  unfold wp_X1_allRules
  repeat' first | with_reducible exact h _ _ | with_reducible exact id | with_reducible refine And.imp ?_ ?_ | with_reducible refine m_arr ?_ ?_ | with_reducible refine m_all (fun _ => ?_)
theorem mono_X1_applying {k0 : Nat} {x1 : Int32} {st : St} {Q Q' : Int32 → St → Prop} (h : ∀ x0_ x1_, Q x0_ x1_ → Q' x0_ x1_) : wp_X1_applying k0 x1 st Q → wp_X1_applying k0 x1 st Q' := by
  unfold wp_X1_applying
  repeat' first | with_reducible exact h _ _ | with_reducible exact id | with_reducible refine And.imp ?_ ?_ | with_reducible refine m_arr ?_ ?_ | with_reducible refine m_all (fun _ => ?_)
theorem mono_X1_decisionAmong {k0 : Nat} {x1 : Int32} {st : St} {Q Q' : Int32 → St → Prop} (h : ∀ x0_ x1_, Q x0_ x1_ → Q' x0_ x1_) : wp_X1_decisionAmong k0 x1 st Q → wp_X1_decisionAmong k0 x1 st Q' := by
  unfold wp_X1_decisionAmong
  repeat' first | with_reducible exact h _ _ | with_reducible exact id | with_reducible refine And.imp ?_ ?_ | with_reducible refine mono_J6_lowestOneBit_0f7a4 (fun _ _ => ?_) | with_reducible refine mono_J6_bitCount_0f7a4 (fun _ _ => ?_) | with_reducible refine mono_X1_majority (fun _ _ => ?_) | with_reducible refine m_arr ?_ ?_ | with_reducible refine m_all (fun _ => ?_)
theorem mono_X1_decisionOn {k0 : Nat} {x1 : Int32} {st : St} {Q Q' : Int32 → St → Prop} (h : ∀ x0_ x1_, Q x0_ x1_ → Q' x0_ x1_) : wp_X1_decisionOn k0 x1 st Q → wp_X1_decisionOn k0 x1 st Q' := by
  unfold wp_X1_decisionOn
  repeat' first | with_reducible exact h _ _ | with_reducible exact id | with_reducible refine And.imp ?_ ?_ | with_reducible refine mono_X1_applying (fun _ _ => ?_) | with_reducible refine mono_X1_decisionAmong (fun _ _ => ?_) | with_reducible refine m_arr ?_ ?_ | with_reducible refine m_all (fun _ => ?_)
theorem mono_X0_size {st : St} {Q Q' : Int32 → St → Prop} (h : ∀ x0_ x1_, Q x0_ x1_ → Q' x0_ x1_) : wp_X0_size  st Q → wp_X0_size  st Q' := by
  unfold wp_X0_size
  repeat' first | with_reducible exact h _ _ | with_reducible exact id | with_reducible refine And.imp ?_ ?_ | with_reducible refine m_arr ?_ ?_ | with_reducible refine m_all (fun _ => ?_)
theorem mono_X0_forgetAll {st : St} {Q Q' : St → Prop} (h : ∀ x0_, Q x0_ → Q' x0_) : wp_X0_forgetAll  st Q → wp_X0_forgetAll  st Q' := by
  unfold wp_X0_forgetAll
  repeat' first | with_reducible exact h _ | with_reducible exact id | with_reducible refine And.imp ?_ ?_ | with_reducible refine m_arr ?_ ?_ | with_reducible refine m_all (fun _ => ?_)
theorem mono_X0_forgetOldest {st : St} {Q Q' : St → Prop} (h : ∀ x0_, Q x0_ → Q' x0_) : wp_X0_forgetOldest  st Q → wp_X0_forgetOldest  st Q' := by
  unfold wp_X0_forgetOldest
  repeat' first | with_reducible exact h _ | with_reducible exact id | with_reducible refine And.imp ?_ ?_ | with_reducible refine m_arr ?_ ?_ | with_reducible refine m_all (fun _ => ?_)
theorem mono_X0_remember {x1 : Int32} {k2 : Nat} {st : St} {Q Q' : St → Prop} (h : ∀ x0_, Q x0_ → Q' x0_) : wp_X0_remember x1 k2 st Q → wp_X0_remember x1 k2 st Q' := by
  unfold wp_X0_remember
  repeat' first | with_reducible exact h _ | with_reducible exact id | with_reducible refine And.imp ?_ ?_ | with_reducible refine mono_X1_saveInto (fun _ => ?_) | with_reducible refine mono_X0_forgetOldest (fun _ => ?_) | with_reducible refine m_arr ?_ ?_ | with_reducible refine m_all (fun _ => ?_)
theorem mono_X0_latestNumber {st : St} {Q Q' : Int32 → St → Prop} (h : ∀ x0_ x1_, Q x0_ x1_ → Q' x0_ x1_) : wp_X0_latestNumber  st Q → wp_X0_latestNumber  st Q' := by
  unfold wp_X0_latestNumber
  repeat' first | with_reducible exact h _ _ | with_reducible exact id | with_reducible refine And.imp ?_ ?_ | with_reducible refine m_arr ?_ ?_ | with_reducible refine m_all (fun _ => ?_)
theorem mono_X0_recallInto {k1 : Nat} {st : St} {Q Q' : St → Prop} (h : ∀ x0_, Q x0_ → Q' x0_) : wp_X0_recallInto k1 st Q → wp_X0_recallInto k1 st Q' := by
  unfold wp_X0_recallInto
  repeat' first | with_reducible exact h _ | with_reducible exact id | with_reducible refine And.imp ?_ ?_ | with_reducible refine mono_X1_restoreFrom (fun _ => ?_) | with_reducible refine m_arr ?_ ?_ | with_reducible refine m_all (fun _ => ?_)
theorem mono_X3_empty {st : St} {Q Q' : St → Prop} (h : ∀ x0_, Q x0_ → Q' x0_) : wp_X3_empty  st Q → wp_X3_empty  st Q' := by
  unfold wp_X3_empty
  repeat' first | with_reducible exact h _ | with_reducible exact id | with_reducible refine And.imp ?_ ?_ | with_reducible refine m_arr ?_ ?_ | with_reducible refine m_all (fun _ => ?_)
theorem mono_X3_add {x1 : Int32} {st : St} {Q Q' : St → Prop} (h : ∀ x0_, Q x0_ → Q' x0_) : wp_X3_add x1 st Q → wp_X3_add x1 st Q' := by
  unfold wp_X3_add
  repeat' first | with_reducible exact h _ | with_reducible exact id | with_reducible refine And.imp ?_ ?_ | with_reducible refine m_arr ?_ ?_ | with_reducible refine m_all (fun _ => ?_)
theorem mono_X3_anyGranted {k1 : Nat} {x2 : Int32} {st : St} {Q Q' : Int32 → St → Prop} (h : ∀ x0_ x1_, Q x0_ x1_ → Q' x0_ x1_) : wp_X3_anyGranted k1 x2 st Q → wp_X3_anyGranted k1 x2 st Q' := by
  unfold wp_X3_anyGranted
  repeat' first | with_reducible exact h _ _ | with_reducible exact id | with_reducible refine And.imp ?_ ?_ | with_reducible refine mono_X1_decisionAmong (fun _ _ => ?_) | with_reducible refine m_arr ?_ ?_ | with_reducible refine m_all (fun _ => ?_)
theorem mono_X3_sameDecisions {k1 : Nat} {x2 : Int32} {x3 : Int32} {st : St} {Q Q' : Int32 → St → Prop} (h : ∀ x0_ x1_, Q x0_ x1_ → Q' x0_ x1_) : wp_X3_sameDecisions k1 x2 x3 st Q → wp_X3_sameDecisions k1 x2 x3 st Q' := by
  unfold wp_X3_sameDecisions
  repeat' first | with_reducible exact h _ _ | with_reducible exact id | with_reducible refine And.imp ?_ ?_ | with_reducible refine mono_X1_decisionAmong (fun _ _ => ?_) | with_reducible refine m_arr ?_ ?_ | with_reducible refine m_all (fun _ => ?_)
theorem mono_X2_length {st : St} {Q Q' : Int32 → St → Prop} (h : ∀ x0_ x1_, Q x0_ x1_ → Q' x0_ x1_) : wp_X2_length  st Q → wp_X2_length  st Q' := by
  unfold wp_X2_length
  repeat' first | with_reducible exact h _ _ | with_reducible exact id | with_reducible refine And.imp ?_ ?_ | with_reducible refine m_arr ?_ ?_ | with_reducible refine m_all (fun _ => ?_)
theorem mono_X2_oldDraft {st : St} {Q Q' : Nat → St → Prop} (h : ∀ x0_ x1_, Q x0_ x1_ → Q' x0_ x1_) : wp_X2_oldDraft  st Q → wp_X2_oldDraft  st Q' := by
  unfold wp_X2_oldDraft
  repeat' first | with_reducible exact h _ _ | with_reducible exact id | with_reducible refine And.imp ?_ ?_ | with_reducible refine m_arr ?_ ?_ | with_reducible refine m_all (fun _ => ?_)
theorem mono_X2_newDraft {st : St} {Q Q' : Nat → St → Prop} (h : ∀ x0_ x1_, Q x0_ x1_ → Q' x0_ x1_) : wp_X2_newDraft  st Q → wp_X2_newDraft  st Q' := by
  unfold wp_X2_newDraft
  repeat' first | with_reducible exact h _ _ | with_reducible exact id | with_reducible refine And.imp ?_ ?_ | with_reducible refine m_arr ?_ ?_ | with_reducible refine m_all (fun _ => ?_)
theorem mono_X2_add {x1 : Int32} {st : St} {Q Q' : Int32 → St → Prop} (h : ∀ x0_ x1_, Q x0_ x1_ → Q' x0_ x1_) : wp_X2_add x1 st Q → wp_X2_add x1 st Q' := by
  unfold wp_X2_add
  repeat' first | with_reducible exact h _ _ | with_reducible exact id | with_reducible refine And.imp ?_ ?_ | with_reducible refine m_arr ?_ ?_ | with_reducible refine m_all (fun _ => ?_)
theorem mono_X2_empty {st : St} {Q Q' : St → Prop} (h : ∀ x0_, Q x0_ → Q' x0_) : wp_X2_empty  st Q → wp_X2_empty  st Q' := by
  unfold wp_X2_empty
  repeat' first | with_reducible exact h _ | with_reducible exact id | with_reducible refine And.imp ?_ ?_ | with_reducible refine m_arr ?_ ?_ | with_reducible refine m_all (fun _ => ?_)
theorem mono_X2_accept {i1 : Nat} {st : St} {Q Q' : Int32 → St → Prop} (h : ∀ x0_ x1_, Q x0_ x1_ → Q' x0_ x1_) : wp_X2_accept i1 st Q → wp_X2_accept i1 st Q' := by
  unfold wp_X2_accept
  repeat' first | with_reducible exact h _ _ | with_reducible exact id | with_reducible refine And.imp ?_ ?_ | with_reducible refine mono_J0_length_8abf5 (fun _ _ => ?_) | with_reducible refine mono_J0_charAt_5068e (fun _ _ => ?_) | with_reducible refine m_arr ?_ ?_ | with_reducible refine m_all (fun _ => ?_)
theorem mono_X2_acceptCharacter {x1 : Int32} {st : St} {Q Q' : Int32 → St → Prop} (h : ∀ x0_ x1_, Q x0_ x1_ → Q' x0_ x1_) : wp_X2_acceptCharacter x1 st Q → wp_X2_acceptCharacter x1 st Q' := by
  unfold wp_X2_acceptCharacter
  repeat' first | with_reducible exact h _ _ | with_reducible exact id | with_reducible refine And.imp ?_ ?_ | with_reducible refine m_arr ?_ ?_ | with_reducible refine m_all (fun _ => ?_)
theorem mono_X2_readAttribute {st : St} {Q Q' : Int32 → St → Prop} (h : ∀ x0_ x1_, Q x0_ x1_ → Q' x0_ x1_) : wp_X2_readAttribute  st Q → wp_X2_readAttribute  st Q' := by
  unfold wp_X2_readAttribute
  repeat' first | with_reducible exact h _ _ | with_reducible exact id | with_reducible refine And.imp ?_ ?_ | with_reducible refine mono_J0_charAt_5068e (fun _ _ => ?_) | with_reducible refine mono_X2_acceptCharacter (fun _ _ => ?_) | with_reducible refine m_arr ?_ ?_ | with_reducible refine m_all (fun _ => ?_)
theorem mono_X2_readValues {x1 : Int32} {st : St} {Q Q' : Int32 → St → Prop} (h : ∀ x0_ x1_, Q x0_ x1_ → Q' x0_ x1_) : wp_X2_readValues x1 st Q → wp_X2_readValues x1 st Q' := by
  unfold wp_X2_readValues
  repeat' first | with_reducible exact h _ _ | with_reducible exact id | with_reducible refine And.imp ?_ ?_ | with_reducible refine m_arr ?_ ?_ | with_reducible refine m_all (fun _ => ?_)
theorem mono_X2_readAlgorithm {st : St} {Q Q' : Int32 → St → Prop} (h : ∀ x0_ x1_, Q x0_ x1_ → Q' x0_ x1_) : wp_X2_readAlgorithm  st Q → wp_X2_readAlgorithm  st Q' := by
  unfold wp_X2_readAlgorithm
  repeat' first | with_reducible exact h _ _ | with_reducible exact id | with_reducible refine And.imp ?_ ?_ | with_reducible refine mono_X1_use (fun _ => ?_) | with_reducible refine mono_X2_accept (fun _ _ => ?_) | with_reducible refine m_arr ?_ ?_ | with_reducible refine m_all (fun _ => ?_)
theorem mono_X2_readRule {x1 : Int32} {st : St} {Q Q' : Int32 → St → Prop} (h : ∀ x0_ x1_, Q x0_ x1_ → Q' x0_ x1_) : wp_X2_readRule x1 st Q → wp_X2_readRule x1 st Q' := by
  unfold wp_X2_readRule
  repeat' first | with_reducible exact h _ _ | with_reducible exact id | with_reducible refine And.imp ?_ ?_ | with_reducible refine mono_X2_accept (fun _ _ => ?_) | with_reducible refine mono_X2_readAttribute (fun _ _ => ?_) | with_reducible refine mono_X2_readValues (fun _ _ => ?_) | with_reducible refine mono_X1_restrict (fun _ => ?_) | with_reducible refine mono_X1_size (fun _ _ => ?_) | with_reducible refine mono_X1_insertRule (fun _ => ?_) | with_reducible refine m_arr ?_ ?_ | with_reducible refine m_all (fun _ => ?_)
theorem mono_X2_readStatement {st : St} {Q Q' : Int32 → St → Prop} (h : ∀ x0_ x1_, Q x0_ x1_ → Q' x0_ x1_) : wp_X2_readStatement  st Q → wp_X2_readStatement  st Q' := by
  unfold wp_X2_readStatement
  repeat' first | with_reducible exact h _ _ | with_reducible exact id | with_reducible refine And.imp ?_ ?_ | with_reducible refine mono_X2_accept (fun _ _ => ?_) | with_reducible refine mono_X2_readRule (fun _ _ => ?_) | with_reducible refine mono_X2_readAlgorithm (fun _ _ => ?_) | with_reducible refine m_arr ?_ ?_ | with_reducible refine m_all (fun _ => ?_)
theorem mono_X2_firstMalformed {st : St} {Q Q' : Int32 → St → Prop} (h : ∀ x0_ x1_, Q x0_ x1_ → Q' x0_ x1_) : wp_X2_firstMalformed  st Q → wp_X2_firstMalformed  st Q' := by
  unfold wp_X2_firstMalformed
  repeat' first | with_reducible exact h _ _ | with_reducible exact id | with_reducible refine And.imp ?_ ?_ | with_reducible refine mono_X2_readStatement (fun _ _ => ?_) | with_reducible refine mono_X2_accept (fun _ _ => ?_) | with_reducible refine mono_X1_empty (fun _ => ?_) | with_reducible refine m_arr ?_ ?_ | with_reducible refine m_all (fun _ => ?_)
theorem mono_X4_isPolicy {x0 : Int32} {st : St} {Q Q' : Int32 → St → Prop} (h : ∀ x0_ x1_, Q x0_ x1_ → Q' x0_ x1_) : wp_X4_isPolicy x0 st Q → wp_X4_isPolicy x0 st Q' := by
  unfold wp_X4_isPolicy
  repeat' first | with_reducible exact h _ _ | with_reducible exact id | with_reducible refine And.imp ?_ ?_ | with_reducible refine m_arr ?_ ?_ | with_reducible refine m_all (fun _ => ?_)
theorem mono_X4_isEffect {x0 : Int32} {st : St} {Q Q' : Int32 → St → Prop} (h : ∀ x0_ x1_, Q x0_ x1_ → Q' x0_ x1_) : wp_X4_isEffect x0 st Q → wp_X4_isEffect x0 st Q' := by
  unfold wp_X4_isEffect
  repeat' first | with_reducible exact h _ _ | with_reducible exact id | with_reducible refine And.imp ?_ ?_ | with_reducible refine m_arr ?_ ?_ | with_reducible refine m_all (fun _ => ?_)
theorem mono_X4_isAttribute {x0 : Int32} {st : St} {Q Q' : Int32 → St → Prop} (h : ∀ x0_ x1_, Q x0_ x1_ → Q' x0_ x1_) : wp_X4_isAttribute x0 st Q → wp_X4_isAttribute x0 st Q' := by
  unfold wp_X4_isAttribute
  repeat' first | with_reducible exact h _ _ | with_reducible exact id | with_reducible refine And.imp ?_ ?_ | with_reducible refine m_arr ?_ ?_ | with_reducible refine m_all (fun _ => ?_)
theorem mono_X4_isRequest {x0 : Int32} {st : St} {Q Q' : Int32 → St → Prop} (h : ∀ x0_ x1_, Q x0_ x1_ → Q' x0_ x1_) : wp_X4_isRequest x0 st Q → wp_X4_isRequest x0 st Q' := by
  unfold wp_X4_isRequest
  repeat' first | with_reducible exact h _ _ | with_reducible exact id | with_reducible refine And.imp ?_ ?_ | with_reducible refine m_arr ?_ ?_ | with_reducible refine m_all (fun _ => ?_)
theorem mono_X4_isDecision {x0 : Int32} {st : St} {Q Q' : Int32 → St → Prop} (h : ∀ x0_ x1_, Q x0_ x1_ → Q' x0_ x1_) : wp_X4_isDecision x0 st Q → wp_X4_isDecision x0 st Q' := by
  unfold wp_X4_isDecision
  repeat' first | with_reducible exact h _ _ | with_reducible exact id | with_reducible refine And.imp ?_ ?_ | with_reducible refine m_arr ?_ ?_ | with_reducible refine m_all (fun _ => ?_)
theorem mono_X4_isValueSet {x0 : Int32} {x1 : Int32} {st : St} {Q Q' : Int32 → St → Prop} (h : ∀ x0_ x1_, Q x0_ x1_ → Q' x0_ x1_) : wp_X4_isValueSet x0 x1 st Q → wp_X4_isValueSet x0 x1 st Q' := by
  unfold wp_X4_isValueSet
  repeat' first | with_reducible exact h _ _ | with_reducible exact id | with_reducible refine And.imp ?_ ?_ | with_reducible refine m_arr ?_ ?_ | with_reducible refine m_all (fun _ => ?_)
theorem mono_X4_policyNumbered {x1 : Int32} {st : St} {Q Q' : Nat → St → Prop} (h : ∀ x0_ x1_, Q x0_ x1_ → Q' x0_ x1_) : wp_X4_policyNumbered x1 st Q → wp_X4_policyNumbered x1 st Q' := by
  unfold wp_X4_policyNumbered
  repeat' first | with_reducible exact h _ _ | with_reducible exact id | with_reducible refine And.imp ?_ ?_ | with_reducible refine m_arr ?_ ?_ | with_reducible refine m_all (fun _ => ?_)
theorem mono_X4_isRule {x1 : Int32} {x2 : Int32} {st : St} {Q Q' : Int32 → St → Prop} (h : ∀ x0_ x1_, Q x0_ x1_ → Q' x0_ x1_) : wp_X4_isRule x1 x2 st Q → wp_X4_isRule x1 x2 st Q' := by
  unfold wp_X4_isRule
  repeat' first | with_reducible exact h _ _ | with_reducible exact id | with_reducible refine And.imp ?_ ?_ | with_reducible refine mono_X4_isPolicy (fun _ _ => ?_) | with_reducible refine mono_X4_policyNumbered (fun _ _ => ?_) | with_reducible refine mono_X1_size (fun _ _ => ?_) | with_reducible refine m_arr ?_ ?_ | with_reducible refine m_all (fun _ => ?_)
theorem mono_X4_valueIn {x0 : Int32} {x1 : Int32} {st : St} {Q Q' : Int32 → St → Prop} (h : ∀ x0_ x1_, Q x0_ x1_ → Q' x0_ x1_) : wp_X4_valueIn x0 x1 st Q → wp_X4_valueIn x0 x1 st Q' := by
  unfold wp_X4_valueIn
  repeat' first | with_reducible exact h _ _ | with_reducible exact id | with_reducible refine And.imp ?_ ?_ | with_reducible refine m_arr ?_ ?_ | with_reducible refine m_all (fun _ => ?_)
theorem mono_X4_takeDrafts {st : St} {Q Q' : St → Prop} (h : ∀ x0_, Q x0_ → Q' x0_) : wp_X4_takeDrafts  st Q → wp_X4_takeDrafts  st Q' := by
  unfold wp_X4_takeDrafts
  repeat' first | with_reducible exact h _ | with_reducible exact id | with_reducible refine And.imp ?_ ?_ | with_reducible refine mono_X2_oldDraft (fun _ _ => ?_) | with_reducible refine mono_X1_copyFrom (fun _ => ?_) | with_reducible refine mono_X2_newDraft (fun _ _ => ?_) | with_reducible refine m_arr ?_ ?_ | with_reducible refine m_all (fun _ => ?_)
theorem mono_X4_requestsDecided {k0 : Nat} {x1 : Int32} {st : St} {Q Q' : Int32 → St → Prop} (h : ∀ x0_ x1_, Q x0_ x1_ → Q' x0_ x1_) : wp_X4_requestsDecided k0 x1 st Q → wp_X4_requestsDecided k0 x1 st Q' := by
  unfold wp_X4_requestsDecided
  repeat' first | with_reducible exact h _ _ | with_reducible exact id | with_reducible refine And.imp ?_ ?_ | with_reducible refine mono_X1_decisionOn (fun _ _ => ?_) | with_reducible refine m_arr ?_ ?_ | with_reducible refine m_all (fun _ => ?_)
theorem mono_X4_isGrantedOnlyBy {k0 : Nat} {k1 : Nat} {x2 : Int32} {st : St} {Q Q' : Int32 → St → Prop} (h : ∀ x0_ x1_, Q x0_ x1_ → Q' x0_ x1_) : wp_X4_isGrantedOnlyBy k0 k1 x2 st Q → wp_X4_isGrantedOnlyBy k0 k1 x2 st Q' := by
  unfold wp_X4_isGrantedOnlyBy
  repeat' first | with_reducible exact h _ _ | with_reducible exact id | with_reducible refine And.imp ?_ ?_ | with_reducible refine mono_X1_decisionOn (fun _ _ => ?_) | with_reducible refine m_arr ?_ ?_ | with_reducible refine m_all (fun _ => ?_)
theorem mono_X4_countGranted {k0 : Nat} {k1 : Nat} {st : St} {Q Q' : Int32 → St → Prop} (h : ∀ x0_ x1_, Q x0_ x1_ → Q' x0_ x1_) : wp_X4_countGranted k0 k1 st Q → wp_X4_countGranted k0 k1 st Q' := by
  unfold wp_X4_countGranted
  repeat' first | with_reducible exact h _ _ | with_reducible exact id | with_reducible refine And.imp ?_ ?_ | with_reducible refine mono_X4_isGrantedOnlyBy (fun _ _ => ?_) | with_reducible refine m_arr ?_ ?_ | with_reducible refine m_all (fun _ => ?_)
theorem mono_X4_nextGranted {k0 : Nat} {k1 : Nat} {x2 : Int32} {st : St} {Q Q' : Int32 → St → Prop} (h : ∀ x0_ x1_, Q x0_ x1_ → Q' x0_ x1_) : wp_X4_nextGranted k0 k1 x2 st Q → wp_X4_nextGranted k0 k1 x2 st Q' := by
  unfold wp_X4_nextGranted
  repeat' first | with_reducible exact h _ _ | with_reducible exact id | with_reducible refine And.imp ?_ ?_ | with_reducible refine mono_X4_isGrantedOnlyBy (fun _ _ => ?_) | with_reducible refine m_arr ?_ ?_ | with_reducible refine m_all (fun _ => ?_)
theorem mono_X4_shareBits {x0 : Int32} {st : St} {Q Q' : Int32 → St → Prop} (h : ∀ x0_ x1_, Q x0_ x1_ → Q' x0_ x1_) : wp_X4_shareBits x0 st Q → wp_X4_shareBits x0 st Q' := by
  unfold wp_X4_shareBits
  repeat' first | with_reducible exact h _ _ | with_reducible exact id | with_reducible refine And.imp ?_ ?_ | with_reducible refine mono_J6_numberOfLeadingZeros_0f7a4 (fun _ _ => ?_) | with_reducible refine m_arr ?_ ?_ | with_reducible refine m_all (fun _ => ?_)
theorem mono_X4_firstChangeWithout {k0 : Nat} {x1 : Int32} {st : St} {Q Q' : Int32 → St → Prop} (h : ∀ x0_ x1_, Q x0_ x1_ → Q' x0_ x1_) : wp_X4_firstChangeWithout k0 x1 st Q → wp_X4_firstChangeWithout k0 x1 st Q' := by
  unfold wp_X4_firstChangeWithout
  repeat' first | with_reducible exact h _ _ | with_reducible exact id | with_reducible refine And.imp ?_ ?_ | with_reducible refine mono_X1_applying (fun _ _ => ?_) | with_reducible refine mono_X1_decisionAmong (fun _ _ => ?_) | with_reducible refine m_arr ?_ ?_ | with_reducible refine m_all (fun _ => ?_)
theorem mono_X4_lowestRedundant {k1 : Nat} {x2 : Int32} {st : St} {Q Q' : Int32 → St → Prop} (h : ∀ x0_ x1_, Q x0_ x1_ → Q' x0_ x1_) : wp_X4_lowestRedundant k1 x2 st Q → wp_X4_lowestRedundant k1 x2 st Q' := by
  unfold wp_X4_lowestRedundant
  repeat' first | with_reducible exact h _ _ | with_reducible exact id | with_reducible refine And.imp ?_ ?_ | with_reducible refine mono_X3_sameDecisions (fun _ _ => ?_) | with_reducible refine m_arr ?_ ?_ | with_reducible refine m_all (fun _ => ?_)
theorem mono_X4_append {x1 : Int32} {st : St} {Q Q' : Int32 → St → Prop} (h : ∀ x0_ x1_, Q x0_ x1_ → Q' x0_ x1_) : wp_X4_append x1 st Q → wp_X4_append x1 st Q' := by
  unfold wp_X4_append
  repeat' first | with_reducible exact h _ _ | with_reducible exact id | with_reducible refine And.imp ?_ ?_ | with_reducible refine mono_X2_add (fun _ _ => ?_) | with_reducible refine mono_X2_length (fun _ _ => ?_) | with_reducible refine m_arr ?_ ?_ | with_reducible refine m_all (fun _ => ?_)
theorem mono_X4_clearText {st : St} {Q Q' : Int32 → St → Prop} (h : ∀ x0_ x1_, Q x0_ x1_ → Q' x0_ x1_) : wp_X4_clearText  st Q → wp_X4_clearText  st Q' := by
  unfold wp_X4_clearText
  repeat' first | with_reducible exact h _ _ | with_reducible exact id | with_reducible refine And.imp ?_ ?_ | with_reducible refine mono_X2_length (fun _ _ => ?_) | with_reducible refine mono_X2_empty (fun _ => ?_) | with_reducible refine m_arr ?_ ?_ | with_reducible refine m_all (fun _ => ?_)
theorem mono_X4_syntaxError {st : St} {Q Q' : Int32 → St → Prop} (h : ∀ x0_ x1_, Q x0_ x1_ → Q' x0_ x1_) : wp_X4_syntaxError  st Q → wp_X4_syntaxError  st Q' := by
  unfold wp_X4_syntaxError
  repeat' first | with_reducible exact h _ _ | with_reducible exact id | with_reducible refine And.imp ?_ ?_ | with_reducible refine mono_X2_firstMalformed (fun _ _ => ?_) | with_reducible refine m_arr ?_ ?_ | with_reducible refine m_all (fun _ => ?_)
theorem mono_X4_load {st : St} {Q Q' : Int32 → St → Prop} (h : ∀ x0_ x1_, Q x0_ x1_ → Q' x0_ x1_) : wp_X4_load  st Q → wp_X4_load  st Q' := by
  unfold wp_X4_load
  repeat' first | with_reducible exact h _ _ | with_reducible exact id | with_reducible refine And.imp ?_ ?_ | with_reducible refine mono_X2_firstMalformed (fun _ _ => ?_) | with_reducible refine mono_X4_takeDrafts (fun _ => ?_) | with_reducible refine mono_X0_forgetAll (fun _ => ?_) | with_reducible refine mono_X1_size (fun _ _ => ?_) | with_reducible refine m_arr ?_ ?_ | with_reducible refine m_all (fun _ => ?_)
theorem mono_X4_addRule {x1 : Int32} {x2 : Int32} {x3 : Int32} {st : St} {Q Q' : Int32 → St → Prop} (h : ∀ x0_ x1_, Q x0_ x1_ → Q' x0_ x1_) : wp_X4_addRule x1 x2 x3 st Q → wp_X4_addRule x1 x2 x3 st Q' := by
  unfold wp_X4_addRule
  repeat' first | with_reducible exact h _ _ | with_reducible exact id | with_reducible refine And.imp ?_ ?_ | with_reducible refine mono_X4_isPolicy (fun _ _ => ?_) | with_reducible refine mono_X4_isEffect (fun _ _ => ?_) | with_reducible refine mono_X4_policyNumbered (fun _ _ => ?_) | with_reducible refine mono_X1_size (fun _ _ => ?_) | with_reducible refine mono_X0_remember (fun _ => ?_) | with_reducible refine mono_X1_insertRule (fun _ => ?_) | with_reducible refine m_arr ?_ ?_ | with_reducible refine m_all (fun _ => ?_)
theorem mono_X4_removeRule {x1 : Int32} {x2 : Int32} {st : St} {Q Q' : Int32 → St → Prop} (h : ∀ x0_ x1_, Q x0_ x1_ → Q' x0_ x1_) : wp_X4_removeRule x1 x2 st Q → wp_X4_removeRule x1 x2 st Q' := by
  unfold wp_X4_removeRule
  repeat' first | with_reducible exact h _ _ | with_reducible exact id | with_reducible refine And.imp ?_ ?_ | with_reducible refine mono_X4_isRule (fun _ _ => ?_) | with_reducible refine mono_X4_policyNumbered (fun _ _ => ?_) | with_reducible refine mono_X0_remember (fun _ => ?_) | with_reducible refine mono_X1_dropRule (fun _ => ?_) | with_reducible refine mono_X1_size (fun _ _ => ?_) | with_reducible refine m_arr ?_ ?_ | with_reducible refine m_all (fun _ => ?_)
theorem mono_X4_moveRule {x1 : Int32} {x2 : Int32} {x3 : Int32} {st : St} {Q Q' : Int32 → St → Prop} (h : ∀ x0_ x1_, Q x0_ x1_ → Q' x0_ x1_) : wp_X4_moveRule x1 x2 x3 st Q → wp_X4_moveRule x1 x2 x3 st Q' := by
  unfold wp_X4_moveRule
  repeat' first | with_reducible exact h _ _ | with_reducible exact id | with_reducible refine And.imp ?_ ?_ | with_reducible refine mono_X4_isRule (fun _ _ => ?_) | with_reducible refine mono_X4_policyNumbered (fun _ _ => ?_) | with_reducible refine mono_X0_remember (fun _ => ?_) | with_reducible refine mono_X1_shiftRule (fun _ => ?_) | with_reducible refine mono_X1_effectAt (fun _ _ => ?_) | with_reducible refine m_arr ?_ ?_ | with_reducible refine m_all (fun _ => ?_)
theorem mono_X4_setAlgorithm {x1 : Int32} {x2 : Int32} {st : St} {Q Q' : Int32 → St → Prop} (h : ∀ x0_ x1_, Q x0_ x1_ → Q' x0_ x1_) : wp_X4_setAlgorithm x1 x2 st Q → wp_X4_setAlgorithm x1 x2 st Q' := by
  unfold wp_X4_setAlgorithm
  repeat' first | with_reducible exact h _ _ | with_reducible exact id | with_reducible refine And.imp ?_ ?_ | with_reducible refine mono_X4_isPolicy (fun _ _ => ?_) | with_reducible refine mono_X4_policyNumbered (fun _ _ => ?_) | with_reducible refine mono_X1_algorithm (fun _ _ => ?_) | with_reducible refine mono_X0_remember (fun _ => ?_) | with_reducible refine mono_X1_use (fun _ => ?_) | with_reducible refine m_arr ?_ ?_ | with_reducible refine m_all (fun _ => ?_)
theorem mono_X4_setTarget {x1 : Int32} {x2 : Int32} {x3 : Int32} {x4 : Int32} {st : St} {Q Q' : Int32 → St → Prop} (h : ∀ x0_ x1_, Q x0_ x1_ → Q' x0_ x1_) : wp_X4_setTarget x1 x2 x3 x4 st Q → wp_X4_setTarget x1 x2 x3 x4 st Q' := by
  unfold wp_X4_setTarget
  repeat' first | with_reducible exact h _ _ | with_reducible exact id | with_reducible refine And.imp ?_ ?_ | with_reducible refine mono_X4_isRule (fun _ _ => ?_) | with_reducible refine mono_X4_isAttribute (fun _ _ => ?_) | with_reducible refine mono_X4_isValueSet (fun _ _ => ?_) | with_reducible refine mono_X4_policyNumbered (fun _ _ => ?_) | with_reducible refine mono_X1_valuesAt (fun _ _ => ?_) | with_reducible refine mono_X0_remember (fun _ => ?_) | with_reducible refine mono_X1_restrict (fun _ => ?_) | with_reducible refine m_arr ?_ ?_ | with_reducible refine m_all (fun _ => ?_)
theorem mono_X4_flipEffect {x1 : Int32} {x2 : Int32} {st : St} {Q Q' : Int32 → St → Prop} (h : ∀ x0_ x1_, Q x0_ x1_ → Q' x0_ x1_) : wp_X4_flipEffect x1 x2 st Q → wp_X4_flipEffect x1 x2 st Q' := by
  unfold wp_X4_flipEffect
  repeat' first | with_reducible exact h _ _ | with_reducible exact id | with_reducible refine And.imp ?_ ?_ | with_reducible refine mono_X4_isRule (fun _ _ => ?_) | with_reducible refine mono_X4_policyNumbered (fun _ _ => ?_) | with_reducible refine mono_X0_remember (fun _ => ?_) | with_reducible refine mono_X1_turnEffect (fun _ => ?_) | with_reducible refine mono_X1_effectAt (fun _ _ => ?_) | with_reducible refine m_arr ?_ ?_ | with_reducible refine m_all (fun _ => ?_)
theorem mono_X4_copyOldToNew {st : St} {Q Q' : Int32 → St → Prop} (h : ∀ x0_ x1_, Q x0_ x1_ → Q' x0_ x1_) : wp_X4_copyOldToNew  st Q → wp_X4_copyOldToNew  st Q' := by
  unfold wp_X4_copyOldToNew
  repeat' first | with_reducible exact h _ _ | with_reducible exact id | with_reducible refine And.imp ?_ ?_ | with_reducible refine mono_X0_remember (fun _ => ?_) | with_reducible refine mono_X1_copyFrom (fun _ => ?_) | with_reducible refine mono_X1_size (fun _ _ => ?_) | with_reducible refine m_arr ?_ ?_ | with_reducible refine m_all (fun _ => ?_)
theorem mono_X4_undo {st : St} {Q Q' : Int32 → St → Prop} (h : ∀ x0_ x1_, Q x0_ x1_ → Q' x0_ x1_) : wp_X4_undo  st Q → wp_X4_undo  st Q' := by
  unfold wp_X4_undo
  repeat' first | with_reducible exact h _ _ | with_reducible exact id | with_reducible refine And.imp ?_ ?_ | with_reducible refine mono_X0_size (fun _ _ => ?_) | with_reducible refine mono_X0_latestNumber (fun _ _ => ?_) | with_reducible refine mono_X4_policyNumbered (fun _ _ => ?_) | with_reducible refine mono_X0_recallInto (fun _ => ?_) | with_reducible refine m_arr ?_ ?_ | with_reducible refine m_all (fun _ => ?_)
theorem mono_X4_ruleCount {x1 : Int32} {st : St} {Q Q' : Int32 → St → Prop} (h : ∀ x0_ x1_, Q x0_ x1_ → Q' x0_ x1_) : wp_X4_ruleCount x1 st Q → wp_X4_ruleCount x1 st Q' := by
  unfold wp_X4_ruleCount
  repeat' first | with_reducible exact h _ _ | with_reducible exact id | with_reducible refine And.imp ?_ ?_ | with_reducible refine mono_X4_isPolicy (fun _ _ => ?_) | with_reducible refine mono_X4_policyNumbered (fun _ _ => ?_) | with_reducible refine mono_X1_size (fun _ _ => ?_) | with_reducible refine m_arr ?_ ?_ | with_reducible refine m_all (fun _ => ?_)
theorem mono_X4_effectOf {x1 : Int32} {x2 : Int32} {st : St} {Q Q' : Int32 → St → Prop} (h : ∀ x0_ x1_, Q x0_ x1_ → Q' x0_ x1_) : wp_X4_effectOf x1 x2 st Q → wp_X4_effectOf x1 x2 st Q' := by
  unfold wp_X4_effectOf
  repeat' first | with_reducible exact h _ _ | with_reducible exact id | with_reducible refine And.imp ?_ ?_ | with_reducible refine mono_X4_isRule (fun _ _ => ?_) | with_reducible refine mono_X4_policyNumbered (fun _ _ => ?_) | with_reducible refine mono_X1_effectAt (fun _ _ => ?_) | with_reducible refine m_arr ?_ ?_ | with_reducible refine m_all (fun _ => ?_)
theorem mono_X4_targetOf {x1 : Int32} {x2 : Int32} {x3 : Int32} {st : St} {Q Q' : Int32 → St → Prop} (h : ∀ x0_ x1_, Q x0_ x1_ → Q' x0_ x1_) : wp_X4_targetOf x1 x2 x3 st Q → wp_X4_targetOf x1 x2 x3 st Q' := by
  unfold wp_X4_targetOf
  repeat' first | with_reducible exact h _ _ | with_reducible exact id | with_reducible refine And.imp ?_ ?_ | with_reducible refine mono_X4_isRule (fun _ _ => ?_) | with_reducible refine mono_X4_isAttribute (fun _ _ => ?_) | with_reducible refine mono_X4_policyNumbered (fun _ _ => ?_) | with_reducible refine mono_X1_valuesAt (fun _ _ => ?_) | with_reducible refine m_arr ?_ ?_ | with_reducible refine m_all (fun _ => ?_)
theorem mono_X4_algorithmOf {x1 : Int32} {st : St} {Q Q' : Int32 → St → Prop} (h : ∀ x0_ x1_, Q x0_ x1_ → Q' x0_ x1_) : wp_X4_algorithmOf x1 st Q → wp_X4_algorithmOf x1 st Q' := by
  unfold wp_X4_algorithmOf
  repeat' first | with_reducible exact h _ _ | with_reducible exact id | with_reducible refine And.imp ?_ ?_ | with_reducible refine mono_X4_isPolicy (fun _ _ => ?_) | with_reducible refine mono_X4_policyNumbered (fun _ _ => ?_) | with_reducible refine mono_X1_algorithm (fun _ _ => ?_) | with_reducible refine m_arr ?_ ?_ | with_reducible refine m_all (fun _ => ?_)
theorem mono_X4_decide {x1 : Int32} {x2 : Int32} {st : St} {Q Q' : Int32 → St → Prop} (h : ∀ x0_ x1_, Q x0_ x1_ → Q' x0_ x1_) : wp_X4_decide x1 x2 st Q → wp_X4_decide x1 x2 st Q' := by
  unfold wp_X4_decide
  repeat' first | with_reducible exact h _ _ | with_reducible exact id | with_reducible refine And.imp ?_ ?_ | with_reducible refine mono_X4_isPolicy (fun _ _ => ?_) | with_reducible refine mono_X4_isRequest (fun _ _ => ?_) | with_reducible refine mono_X4_policyNumbered (fun _ _ => ?_) | with_reducible refine mono_X1_decisionOn (fun _ _ => ?_) | with_reducible refine m_arr ?_ ?_ | with_reducible refine m_all (fun _ => ?_)
theorem mono_X4_decisionCount {x1 : Int32} {x2 : Int32} {st : St} {Q Q' : Int32 → St → Prop} (h : ∀ x0_ x1_, Q x0_ x1_ → Q' x0_ x1_) : wp_X4_decisionCount x1 x2 st Q → wp_X4_decisionCount x1 x2 st Q' := by
  unfold wp_X4_decisionCount
  repeat' first | with_reducible exact h _ _ | with_reducible exact id | with_reducible refine And.imp ?_ ?_ | with_reducible refine mono_X4_isPolicy (fun _ _ => ?_) | with_reducible refine mono_X4_isDecision (fun _ _ => ?_) | with_reducible refine mono_X4_policyNumbered (fun _ _ => ?_) | with_reducible refine mono_X4_requestsDecided (fun _ _ => ?_) | with_reducible refine m_arr ?_ ?_ | with_reducible refine m_all (fun _ => ?_)
theorem mono_X4_applicableRules {x1 : Int32} {x2 : Int32} {st : St} {Q Q' : Int32 → St → Prop} (h : ∀ x0_ x1_, Q x0_ x1_ → Q' x0_ x1_) : wp_X4_applicableRules x1 x2 st Q → wp_X4_applicableRules x1 x2 st Q' := by
  unfold wp_X4_applicableRules
  repeat' first | with_reducible exact h _ _ | with_reducible exact id | with_reducible refine And.imp ?_ ?_ | with_reducible refine mono_X4_isPolicy (fun _ _ => ?_) | with_reducible refine mono_X4_isRequest (fun _ _ => ?_) | with_reducible refine mono_X4_policyNumbered (fun _ _ => ?_) | with_reducible refine mono_X1_applying (fun _ _ => ?_) | with_reducible refine mono_J6_bitCount_0f7a4 (fun _ _ => ?_) | with_reducible refine m_arr ?_ ?_ | with_reducible refine m_all (fun _ => ?_)
theorem mono_X4_gainCount {st : St} {Q Q' : Int32 → St → Prop} (h : ∀ x0_ x1_, Q x0_ x1_ → Q' x0_ x1_) : wp_X4_gainCount  st Q → wp_X4_gainCount  st Q' := by
  unfold wp_X4_gainCount
  repeat' first | with_reducible exact h _ _ | with_reducible exact id | with_reducible refine And.imp ?_ ?_ | with_reducible refine mono_X4_countGranted (fun _ _ => ?_) | with_reducible refine m_arr ?_ ?_ | with_reducible refine m_all (fun _ => ?_)
theorem mono_X4_lossCount {st : St} {Q Q' : Int32 → St → Prop} (h : ∀ x0_ x1_, Q x0_ x1_ → Q' x0_ x1_) : wp_X4_lossCount  st Q → wp_X4_lossCount  st Q' := by
  unfold wp_X4_lossCount
  repeat' first | with_reducible exact h _ _ | with_reducible exact id | with_reducible refine And.imp ?_ ?_ | with_reducible refine mono_X4_countGranted (fun _ _ => ?_) | with_reducible refine m_arr ?_ ?_ | with_reducible refine m_all (fun _ => ?_)
theorem mono_X4_gainCountOf {x1 : Int32} {x2 : Int32} {st : St} {Q Q' : Int32 → St → Prop} (h : ∀ x0_ x1_, Q x0_ x1_ → Q' x0_ x1_) : wp_X4_gainCountOf x1 x2 st Q → wp_X4_gainCountOf x1 x2 st Q' := by
  unfold wp_X4_gainCountOf
  repeat' first | with_reducible exact h _ _ | with_reducible exact id | with_reducible refine And.imp ?_ ?_ | with_reducible refine mono_X4_valueIn (fun _ _ => ?_) | with_reducible refine mono_X4_isGrantedOnlyBy (fun _ _ => ?_) | with_reducible refine mono_X4_isAttribute (fun _ _ => ?_) | with_reducible refine m_arr ?_ ?_ | with_reducible refine m_all (fun _ => ?_)
theorem mono_X4_nextGain {x1 : Int32} {st : St} {Q Q' : Int32 → St → Prop} (h : ∀ x0_ x1_, Q x0_ x1_ → Q' x0_ x1_) : wp_X4_nextGain x1 st Q → wp_X4_nextGain x1 st Q' := by
  unfold wp_X4_nextGain
  repeat' first | with_reducible exact h _ _ | with_reducible exact id | with_reducible refine And.imp ?_ ?_ | with_reducible refine mono_X4_isRequest (fun _ _ => ?_) | with_reducible refine mono_X4_nextGranted (fun _ _ => ?_) | with_reducible refine m_arr ?_ ?_ | with_reducible refine m_all (fun _ => ?_)
theorem mono_X4_nextLoss {x1 : Int32} {st : St} {Q Q' : Int32 → St → Prop} (h : ∀ x0_ x1_, Q x0_ x1_ → Q' x0_ x1_) : wp_X4_nextLoss x1 st Q → wp_X4_nextLoss x1 st Q' := by
  unfold wp_X4_nextLoss
  repeat' first | with_reducible exact h _ _ | with_reducible exact id | with_reducible refine And.imp ?_ ?_ | with_reducible refine mono_X4_isRequest (fun _ _ => ?_) | with_reducible refine mono_X4_nextGranted (fun _ _ => ?_) | with_reducible refine m_arr ?_ ?_ | with_reducible refine m_all (fun _ => ?_)
theorem mono_X4_transitionCount {x1 : Int32} {x2 : Int32} {st : St} {Q Q' : Int32 → St → Prop} (h : ∀ x0_ x1_, Q x0_ x1_ → Q' x0_ x1_) : wp_X4_transitionCount x1 x2 st Q → wp_X4_transitionCount x1 x2 st Q' := by
  unfold wp_X4_transitionCount
  repeat' first | with_reducible exact h _ _ | with_reducible exact id | with_reducible refine And.imp ?_ ?_ | with_reducible refine mono_X1_decisionOn (fun _ _ => ?_) | with_reducible refine mono_X4_isDecision (fun _ _ => ?_) | with_reducible refine m_arr ?_ ?_ | with_reducible refine m_all (fun _ => ?_)
theorem mono_X4_grantedShareBits {x1 : Int32} {st : St} {Q Q' : Int32 → St → Prop} (h : ∀ x0_ x1_, Q x0_ x1_ → Q' x0_ x1_) : wp_X4_grantedShareBits x1 st Q → wp_X4_grantedShareBits x1 st Q' := by
  unfold wp_X4_grantedShareBits
  repeat' first | with_reducible exact h _ _ | with_reducible exact id | with_reducible refine And.imp ?_ ?_ | with_reducible refine mono_X4_isPolicy (fun _ _ => ?_) | with_reducible refine mono_X4_policyNumbered (fun _ _ => ?_) | with_reducible refine mono_X4_requestsDecided (fun _ _ => ?_) | with_reducible refine mono_X4_shareBits (fun _ _ => ?_) | with_reducible refine m_arr ?_ ?_ | with_reducible refine m_all (fun _ => ?_)
theorem mono_X4_isRedundant {x1 : Int32} {x2 : Int32} {st : St} {Q Q' : Int32 → St → Prop} (h : ∀ x0_ x1_, Q x0_ x1_ → Q' x0_ x1_) : wp_X4_isRedundant x1 x2 st Q → wp_X4_isRedundant x1 x2 st Q' := by
  unfold wp_X4_isRedundant
  repeat' first | with_reducible exact h _ _ | with_reducible exact id | with_reducible refine And.imp ?_ ?_ | with_reducible refine mono_X4_isRule (fun _ _ => ?_) | with_reducible refine mono_X4_policyNumbered (fun _ _ => ?_) | with_reducible refine mono_X4_firstChangeWithout (fun _ _ => ?_) | with_reducible refine m_arr ?_ ?_ | with_reducible refine m_all (fun _ => ?_)
theorem mono_X4_witness {x1 : Int32} {x2 : Int32} {st : St} {Q Q' : Int32 → St → Prop} (h : ∀ x0_ x1_, Q x0_ x1_ → Q' x0_ x1_) : wp_X4_witness x1 x2 st Q → wp_X4_witness x1 x2 st Q' := by
  unfold wp_X4_witness
  repeat' first | with_reducible exact h _ _ | with_reducible exact id | with_reducible refine And.imp ?_ ?_ | with_reducible refine mono_X4_isRule (fun _ _ => ?_) | with_reducible refine mono_X4_policyNumbered (fun _ _ => ?_) | with_reducible refine mono_X4_firstChangeWithout (fun _ _ => ?_) | with_reducible refine m_arr ?_ ?_ | with_reducible refine m_all (fun _ => ?_)
theorem mono_X4_irredundantCore {x1 : Int32} {st : St} {Q Q' : Int32 → St → Prop} (h : ∀ x0_ x1_, Q x0_ x1_ → Q' x0_ x1_) : wp_X4_irredundantCore x1 st Q → wp_X4_irredundantCore x1 st Q' := by
  unfold wp_X4_irredundantCore
  repeat' first | with_reducible exact h _ _ | with_reducible exact id | with_reducible refine And.imp ?_ ?_ | with_reducible refine mono_X1_allRules (fun _ _ => ?_) | with_reducible refine mono_X4_lowestRedundant (fun _ _ => ?_) | with_reducible refine mono_X1_applying (fun _ _ => ?_) | with_reducible refine mono_X3_add (fun _ => ?_) | with_reducible refine mono_X4_isPolicy (fun _ _ => ?_) | with_reducible refine mono_X4_policyNumbered (fun _ _ => ?_) | with_reducible refine mono_X3_empty (fun _ => ?_) | with_reducible refine m_arr ?_ ?_ | with_reducible refine m_all (fun _ => ?_)
theorem mono_X4_leastRemoval {st : St} {Q Q' : Int32 → St → Prop} (h : ∀ x0_ x1_, Q x0_ x1_ → Q' x0_ x1_) : wp_X4_leastRemoval  st Q → wp_X4_leastRemoval  st Q' := by
  unfold wp_X4_leastRemoval
  repeat' first | with_reducible exact h _ _ | with_reducible exact id | with_reducible refine And.imp ?_ ?_ | with_reducible refine mono_X1_allRules (fun _ _ => ?_) | with_reducible refine mono_X1_decisionOn (fun _ _ => ?_) | with_reducible refine mono_X1_applying (fun _ _ => ?_) | with_reducible refine mono_X3_add (fun _ => ?_) | with_reducible refine mono_J6_bitCount_0f7a4 (fun _ _ => ?_) | with_reducible refine mono_X3_anyGranted (fun _ _ => ?_) | with_reducible refine mono_X3_empty (fun _ => ?_) | with_reducible refine m_arr ?_ ?_ | with_reducible refine m_all (fun _ => ?_)
theorem mono_X4_historySize {st : St} {Q Q' : Int32 → St → Prop} (h : ∀ x0_ x1_, Q x0_ x1_ → Q' x0_ x1_) : wp_X4_historySize  st Q → wp_X4_historySize  st Q' := by
  unfold wp_X4_historySize
  repeat' first | with_reducible exact h _ _ | with_reducible exact id | with_reducible refine And.imp ?_ ?_ | with_reducible refine mono_X0_size (fun _ _ => ?_) | with_reducible refine m_arr ?_ ?_ | with_reducible refine m_all (fun _ => ?_)
theorem mono_X5_sets {x1 : Int32} {x2 : Int32} {x3 : Int32} {x4 : Int32} {x5 : Int32} {x6 : Int32} {x7 : Int32} {st : St} {Q Q' : St → Prop} (h : ∀ x0_, Q x0_ → Q' x0_) : wp_X5_sets x1 x2 x3 x4 x5 x6 x7 st Q → wp_X5_sets x1 x2 x3 x4 x5 x6 x7 st Q' := by
  unfold wp_X5_sets
  repeat' first | with_reducible exact h _ | with_reducible exact id | with_reducible refine And.imp ?_ ?_ | with_reducible refine m_arr ?_ ?_ | with_reducible refine m_all (fun _ => ?_)
theorem mono_X5_in {x0 : Int32} {x1 : Int32} {x2 : Int32} {st : St} {Q Q' : Int32 → St → Prop} (h : ∀ x0_ x1_, Q x0_ x1_ → Q' x0_ x1_) : wp_X5_in x0 x1 x2 st Q → wp_X5_in x0 x1 x2 st Q' := by
  unfold wp_X5_in
  repeat' first | with_reducible exact h _ _ | with_reducible exact id | with_reducible refine And.imp ?_ ?_ | with_reducible refine m_arr ?_ ?_ | with_reducible refine m_all (fun _ => ?_)
theorem mono_X5_has {x0 : Int32} {x1 : Int32} {st : St} {Q Q' : Int32 → St → Prop} (h : ∀ x0_ x1_, Q x0_ x1_ → Q' x0_ x1_) : wp_X5_has x0 x1 st Q → wp_X5_has x0 x1 st Q' := by
  unfold wp_X5_has
  repeat' first | with_reducible exact h _ _ | with_reducible exact id | with_reducible refine And.imp ?_ ?_ | with_reducible refine m_arr ?_ ?_ | with_reducible refine m_all (fun _ => ?_)
theorem mono_X5_valuesOf {x0 : Int32} {st : St} {Q Q' : Int32 → St → Prop} (h : ∀ x0_ x1_, Q x0_ x1_ → Q' x0_ x1_) : wp_X5_valuesOf x0 st Q → wp_X5_valuesOf x0 st Q' := by
  unfold wp_X5_valuesOf
  repeat' first | with_reducible exact h _ _ | with_reducible exact id | with_reducible refine And.imp ?_ ?_ | with_reducible refine m_arr ?_ ?_ | with_reducible refine m_all (fun _ => ?_)
theorem mono_X5_append {x1 : Int32} {st : St} {Q Q' : Int32 → St → Prop} (h : ∀ x0_ x1_, Q x0_ x1_ → Q' x0_ x1_) : wp_X5_append x1 st Q → wp_X5_append x1 st Q' := by
  unfold wp_X5_append
  repeat' first | with_reducible exact h _ _ | with_reducible exact id | with_reducible refine And.imp ?_ ?_ | with_reducible refine mono_X5_in (fun _ _ => ?_) | with_reducible refine m_arr ?_ ?_ | with_reducible refine m_all (fun _ => ?_)
theorem mono_X5_clearText {st : St} {Q Q' : Int32 → St → Prop} (h : ∀ x0_ x1_, Q x0_ x1_ → Q' x0_ x1_) : wp_X5_clearText  st Q → wp_X5_clearText  st Q' := by
  unfold wp_X5_clearText
  repeat' first | with_reducible exact h _ _ | with_reducible exact id | with_reducible refine And.imp ?_ ?_ | with_reducible refine m_arr ?_ ?_ | with_reducible refine m_all (fun _ => ?_)
theorem mono_X5_next {st : St} {Q Q' : Int32 → St → Prop} (h : ∀ x0_ x1_, Q x0_ x1_ → Q' x0_ x1_) : wp_X5_next  st Q → wp_X5_next  st Q' := by
  unfold wp_X5_next
  repeat' first | with_reducible exact h _ _ | with_reducible exact id | with_reducible refine And.imp ?_ ?_ | with_reducible refine m_arr ?_ ?_ | with_reducible refine m_all (fun _ => ?_)
theorem mono_X5_is {x1 : Int32} {x2 : Int32} {st : St} {Q Q' : Int32 → St → Prop} (h : ∀ x0_ x1_, Q x0_ x1_ → Q' x0_ x1_) : wp_X5_is x1 x2 st Q → wp_X5_is x1 x2 st Q' := by
  unfold wp_X5_is
  repeat' first | with_reducible exact h _ _ | with_reducible exact id | with_reducible refine And.imp ?_ ?_ | with_reducible refine m_arr ?_ ?_ | with_reducible refine m_all (fun _ => ?_)
theorem mono_X5_are {x1 : Int32} {x2 : Int32} {x3 : Int32} {x4 : Int32} {x5 : Int32} {st : St} {Q Q' : Int32 → St → Prop} (h : ∀ x0_ x1_, Q x0_ x1_ → Q' x0_ x1_) : wp_X5_are x1 x2 x3 x4 x5 st Q → wp_X5_are x1 x2 x3 x4 x5 st Q' := by
  unfold wp_X5_are
  repeat' first | with_reducible exact h _ _ | with_reducible exact id | with_reducible refine And.imp ?_ ?_ | with_reducible refine mono_X5_is (fun _ _ => ?_) | with_reducible refine m_arr ?_ ?_ | with_reducible refine m_all (fun _ => ?_)
theorem mono_X5_word {x1 : Int32} {x2 : Int32} {x3 : Int32} {x4 : Int32} {x5 : Int32} {x6 : Int32} {x7 : Int32} {st : St} {Q Q' : Int32 → St → Prop} (h : ∀ x0_ x1_, Q x0_ x1_ → Q' x0_ x1_) : wp_X5_word x1 x2 x3 x4 x5 x6 x7 st Q → wp_X5_word x1 x2 x3 x4 x5 x6 x7 st Q' := by
  unfold wp_X5_word
  repeat' first | with_reducible exact h _ _ | with_reducible exact id | with_reducible refine And.imp ?_ ?_ | with_reducible refine mono_X5_is (fun _ _ => ?_) | with_reducible refine m_arr ?_ ?_ | with_reducible refine m_all (fun _ => ?_)
theorem mono_X5_clears {st : St} {Q Q' : St → Prop} (h : ∀ x0_, Q x0_ → Q' x0_) : wp_X5_clears  st Q → wp_X5_clears  st Q' := by
  unfold wp_X5_clears
  repeat' first | with_reducible exact h _ | with_reducible exact id | with_reducible refine And.imp ?_ ?_ | with_reducible refine m_arr ?_ ?_ | with_reducible refine m_all (fun _ => ?_)
theorem mono_X5_takes {st : St} {Q Q' : St → Prop} (h : ∀ x0_, Q x0_ → Q' x0_) : wp_X5_takes  st Q → wp_X5_takes  st Q' := by
  unfold wp_X5_takes
  repeat' first | with_reducible exact h _ | with_reducible exact id | with_reducible refine And.imp ?_ ?_ | with_reducible refine m_arr ?_ ?_ | with_reducible refine m_all (fun _ => ?_)
theorem mono_X5_attributeOf {x0 : Int32} {st : St} {Q Q' : Int32 → St → Prop} (h : ∀ x0_ x1_, Q x0_ x1_ → Q' x0_ x1_) : wp_X5_attributeOf x0 st Q → wp_X5_attributeOf x0 st Q' := by
  unfold wp_X5_attributeOf
  repeat' first | with_reducible exact h _ _ | with_reducible exact id | with_reducible refine And.imp ?_ ?_ | with_reducible refine m_arr ?_ ?_ | with_reducible refine m_all (fun _ => ?_)
theorem mono_X5_constraints {x1 : Int32} {st : St} {Q Q' : Int32 → St → Prop} (h : ∀ x0_ x1_, Q x0_ x1_ → Q' x0_ x1_) : wp_X5_constraints x1 st Q → wp_X5_constraints x1 st Q' := by
  unfold wp_X5_constraints
  repeat' first | with_reducible exact h _ _ | with_reducible exact id | with_reducible refine And.imp ?_ ?_ | with_reducible refine mono_X5_next (fun _ _ => ?_) | with_reducible refine mono_X5_attributeOf (fun _ _ => ?_) | with_reducible refine mono_X5_has (fun _ _ => ?_) | with_reducible refine mono_X5_valuesOf (fun _ _ => ?_) | with_reducible refine mono_X5_in (fun _ _ => ?_) | with_reducible refine m_arr ?_ ?_ | with_reducible refine m_all (fun _ => ?_)
theorem mono_X5_rule {x1 : Int32} {x2 : Int32} {st : St} {Q Q' : Int32 → St → Prop} (h : ∀ x0_ x1_, Q x0_ x1_ → Q' x0_ x1_) : wp_X5_rule x1 x2 st Q → wp_X5_rule x1 x2 st Q' := by
  unfold wp_X5_rule
  repeat' first | with_reducible exact h _ _ | with_reducible exact id | with_reducible refine And.imp ?_ ?_ | with_reducible refine mono_X5_constraints (fun _ _ => ?_) | with_reducible refine mono_X5_valuesOf (fun _ _ => ?_) | with_reducible refine m_arr ?_ ?_ | with_reducible refine m_all (fun _ => ?_)
theorem mono_X5_algorithm {st : St} {Q Q' : Int32 → St → Prop} (h : ∀ x0_ x1_, Q x0_ x1_ → Q' x0_ x1_) : wp_X5_algorithm  st Q → wp_X5_algorithm  st Q' := by
  unfold wp_X5_algorithm
  repeat' first | with_reducible exact h _ _ | with_reducible exact id | with_reducible refine And.imp ?_ ?_ | with_reducible refine mono_X5_are (fun _ _ => ?_) | with_reducible refine mono_X5_word (fun _ _ => ?_) | with_reducible refine mono_X5_is (fun _ _ => ?_) | with_reducible refine m_arr ?_ ?_ | with_reducible refine m_all (fun _ => ?_)
theorem mono_X5_statement {st : St} {Q Q' : Int32 → St → Prop} (h : ∀ x0_ x1_, Q x0_ x1_ → Q' x0_ x1_) : wp_X5_statement  st Q → wp_X5_statement  st Q' := by
  unfold wp_X5_statement
  repeat' first | with_reducible exact h _ _ | with_reducible exact id | with_reducible refine And.imp ?_ ?_ | with_reducible refine mono_X5_word (fun _ _ => ?_) | with_reducible refine mono_X5_algorithm (fun _ _ => ?_) | with_reducible refine mono_X5_rule (fun _ _ => ?_) | with_reducible refine m_arr ?_ ?_ | with_reducible refine m_all (fun _ => ?_)
theorem mono_X5_syntaxError {st : St} {Q Q' : Int32 → St → Prop} (h : ∀ x0_ x1_, Q x0_ x1_ → Q' x0_ x1_) : wp_X5_syntaxError  st Q → wp_X5_syntaxError  st Q' := by
  unfold wp_X5_syntaxError
  repeat' first | with_reducible exact h _ _ | with_reducible exact id | with_reducible refine And.imp ?_ ?_ | with_reducible refine mono_X5_statement (fun _ _ => ?_) | with_reducible refine mono_X5_next (fun _ _ => ?_) | with_reducible refine mono_X5_clears (fun _ => ?_) | with_reducible refine m_arr ?_ ?_ | with_reducible refine m_all (fun _ => ?_)
theorem mono_X5_load {st : St} {Q Q' : Int32 → St → Prop} (h : ∀ x0_ x1_, Q x0_ x1_ → Q' x0_ x1_) : wp_X5_load  st Q → wp_X5_load  st Q' := by
  unfold wp_X5_load
  repeat' first | with_reducible exact h _ _ | with_reducible exact id | with_reducible refine And.imp ?_ ?_ | with_reducible refine mono_X5_syntaxError (fun _ _ => ?_) | with_reducible refine mono_X5_takes (fun _ => ?_) | with_reducible refine m_arr ?_ ?_ | with_reducible refine m_all (fun _ => ?_)
theorem mono_X5_edit {st : St} {Q Q' : St → Prop} (h : ∀ x0_, Q x0_ → Q' x0_) : wp_X5_edit  st Q → wp_X5_edit  st Q' := by
  unfold wp_X5_edit
  repeat' first | with_reducible exact h _ | with_reducible exact id | with_reducible refine And.imp ?_ ?_ | with_reducible refine m_arr ?_ ?_ | with_reducible refine m_all (fun _ => ?_)
theorem mono_X5_undo {st : St} {Q Q' : Int32 → St → Prop} (h : ∀ x0_ x1_, Q x0_ x1_ → Q' x0_ x1_) : wp_X5_undo  st Q → wp_X5_undo  st Q' := by
  unfold wp_X5_undo
  repeat' first | with_reducible exact h _ _ | with_reducible exact id | with_reducible refine And.imp ?_ ?_ | with_reducible refine m_arr ?_ ?_ | with_reducible refine m_all (fun _ => ?_)
theorem mono_X5_isPolicy {x0 : Int32} {st : St} {Q Q' : Int32 → St → Prop} (h : ∀ x0_ x1_, Q x0_ x1_ → Q' x0_ x1_) : wp_X5_isPolicy x0 st Q → wp_X5_isPolicy x0 st Q' := by
  unfold wp_X5_isPolicy
  repeat' first | with_reducible exact h _ _ | with_reducible exact id | with_reducible refine And.imp ?_ ?_ | with_reducible refine mono_X5_in (fun _ _ => ?_) | with_reducible refine m_arr ?_ ?_ | with_reducible refine m_all (fun _ => ?_)
theorem mono_X5_isRule {x1 : Int32} {x2 : Int32} {st : St} {Q Q' : Int32 → St → Prop} (h : ∀ x0_ x1_, Q x0_ x1_ → Q' x0_ x1_) : wp_X5_isRule x1 x2 st Q → wp_X5_isRule x1 x2 st Q' := by
  unfold wp_X5_isRule
  repeat' first | with_reducible exact h _ _ | with_reducible exact id | with_reducible refine And.imp ?_ ?_ | with_reducible refine mono_X5_isPolicy (fun _ _ => ?_) | with_reducible refine mono_X5_in (fun _ _ => ?_) | with_reducible refine m_arr ?_ ?_ | with_reducible refine m_all (fun _ => ?_)
theorem mono_X5_copies {x1 : Int32} {x2 : Int32} {x3 : Int32} {st : St} {Q Q' : St → Prop} (h : ∀ x0_, Q x0_ → Q' x0_) : wp_X5_copies x1 x2 x3 st Q → wp_X5_copies x1 x2 x3 st Q' := by
  unfold wp_X5_copies
  repeat' first | with_reducible exact h _ | with_reducible exact id | with_reducible refine And.imp ?_ ?_ | with_reducible refine m_arr ?_ ?_ | with_reducible refine m_all (fun _ => ?_)
theorem mono_X5_addRule {x1 : Int32} {x2 : Int32} {x3 : Int32} {st : St} {Q Q' : Int32 → St → Prop} (h : ∀ x0_ x1_, Q x0_ x1_ → Q' x0_ x1_) : wp_X5_addRule x1 x2 x3 st Q → wp_X5_addRule x1 x2 x3 st Q' := by
  unfold wp_X5_addRule
  repeat' first | with_reducible exact h _ _ | with_reducible exact id | with_reducible refine And.imp ?_ ?_ | with_reducible refine mono_X5_copies (fun _ => ?_) | with_reducible refine mono_X5_valuesOf (fun _ _ => ?_) | with_reducible refine mono_X5_isPolicy (fun _ _ => ?_) | with_reducible refine mono_X5_in (fun _ _ => ?_) | with_reducible refine mono_X5_edit (fun _ => ?_) | with_reducible refine m_arr ?_ ?_ | with_reducible refine m_all (fun _ => ?_)
theorem mono_X5_removes {x1 : Int32} {x2 : Int32} {st : St} {Q Q' : St → Prop} (h : ∀ x0_, Q x0_ → Q' x0_) : wp_X5_removes x1 x2 st Q → wp_X5_removes x1 x2 st Q' := by
  unfold wp_X5_removes
  repeat' first | with_reducible exact h _ | with_reducible exact id | with_reducible refine And.imp ?_ ?_ | with_reducible refine mono_X5_copies (fun _ => ?_) | with_reducible refine m_arr ?_ ?_ | with_reducible refine m_all (fun _ => ?_)
theorem mono_X5_removeRule {x1 : Int32} {x2 : Int32} {st : St} {Q Q' : Int32 → St → Prop} (h : ∀ x0_ x1_, Q x0_ x1_ → Q' x0_ x1_) : wp_X5_removeRule x1 x2 st Q → wp_X5_removeRule x1 x2 st Q' := by
  unfold wp_X5_removeRule
  repeat' first | with_reducible exact h _ _ | with_reducible exact id | with_reducible refine And.imp ?_ ?_ | with_reducible refine mono_X5_isRule (fun _ _ => ?_) | with_reducible refine mono_X5_edit (fun _ => ?_) | with_reducible refine mono_X5_removes (fun _ => ?_) | with_reducible refine m_arr ?_ ?_ | with_reducible refine m_all (fun _ => ?_)
theorem mono_X5_moveRule {x1 : Int32} {x2 : Int32} {x3 : Int32} {st : St} {Q Q' : Int32 → St → Prop} (h : ∀ x0_ x1_, Q x0_ x1_ → Q' x0_ x1_) : wp_X5_moveRule x1 x2 x3 st Q → wp_X5_moveRule x1 x2 x3 st Q' := by
  unfold wp_X5_moveRule
  repeat' first | with_reducible exact h _ _ | with_reducible exact id | with_reducible refine And.imp ?_ ?_ | with_reducible refine mono_X5_copies (fun _ => ?_) | with_reducible refine mono_X5_isRule (fun _ _ => ?_) | with_reducible refine mono_X5_edit (fun _ => ?_) | with_reducible refine m_arr ?_ ?_ | with_reducible refine m_all (fun _ => ?_)
theorem mono_X5_setAlgorithm {x1 : Int32} {x2 : Int32} {st : St} {Q Q' : Int32 → St → Prop} (h : ∀ x0_ x1_, Q x0_ x1_ → Q' x0_ x1_) : wp_X5_setAlgorithm x1 x2 st Q → wp_X5_setAlgorithm x1 x2 st Q' := by
  unfold wp_X5_setAlgorithm
  repeat' first | with_reducible exact h _ _ | with_reducible exact id | with_reducible refine And.imp ?_ ?_ | with_reducible refine mono_X5_isPolicy (fun _ _ => ?_) | with_reducible refine mono_X5_in (fun _ _ => ?_) | with_reducible refine mono_X5_edit (fun _ => ?_) | with_reducible refine m_arr ?_ ?_ | with_reducible refine m_all (fun _ => ?_)
theorem mono_X5_setTarget {x1 : Int32} {x2 : Int32} {x3 : Int32} {x4 : Int32} {st : St} {Q Q' : Int32 → St → Prop} (h : ∀ x0_ x1_, Q x0_ x1_ → Q' x0_ x1_) : wp_X5_setTarget x1 x2 x3 x4 st Q → wp_X5_setTarget x1 x2 x3 x4 st Q' := by
  unfold wp_X5_setTarget
  repeat' first | with_reducible exact h _ _ | with_reducible exact id | with_reducible refine And.imp ?_ ?_ | with_reducible refine mono_X5_isRule (fun _ _ => ?_) | with_reducible refine mono_X5_in (fun _ _ => ?_) | with_reducible refine mono_X5_valuesOf (fun _ _ => ?_) | with_reducible refine mono_X5_edit (fun _ => ?_) | with_reducible refine m_arr ?_ ?_ | with_reducible refine m_all (fun _ => ?_)
theorem mono_X5_flipEffect {x1 : Int32} {x2 : Int32} {st : St} {Q Q' : Int32 → St → Prop} (h : ∀ x0_ x1_, Q x0_ x1_ → Q' x0_ x1_) : wp_X5_flipEffect x1 x2 st Q → wp_X5_flipEffect x1 x2 st Q' := by
  unfold wp_X5_flipEffect
  repeat' first | with_reducible exact h _ _ | with_reducible exact id | with_reducible refine And.imp ?_ ?_ | with_reducible refine mono_X5_isRule (fun _ _ => ?_) | with_reducible refine mono_X5_edit (fun _ => ?_) | with_reducible refine m_arr ?_ ?_ | with_reducible refine m_all (fun _ => ?_)
theorem mono_X5_copyOldToNew {st : St} {Q Q' : Int32 → St → Prop} (h : ∀ x0_ x1_, Q x0_ x1_ → Q' x0_ x1_) : wp_X5_copyOldToNew  st Q → wp_X5_copyOldToNew  st Q' := by
  unfold wp_X5_copyOldToNew
  repeat' first | with_reducible exact h _ _ | with_reducible exact id | with_reducible refine And.imp ?_ ?_ | with_reducible refine mono_X5_edit (fun _ => ?_) | with_reducible refine m_arr ?_ ?_ | with_reducible refine m_all (fun _ => ?_)
theorem mono_X5_ruleCount {x1 : Int32} {st : St} {Q Q' : Int32 → St → Prop} (h : ∀ x0_ x1_, Q x0_ x1_ → Q' x0_ x1_) : wp_X5_ruleCount x1 st Q → wp_X5_ruleCount x1 st Q' := by
  unfold wp_X5_ruleCount
  repeat' first | with_reducible exact h _ _ | with_reducible exact id | with_reducible refine And.imp ?_ ?_ | with_reducible refine mono_X5_isPolicy (fun _ _ => ?_) | with_reducible refine m_arr ?_ ?_ | with_reducible refine m_all (fun _ => ?_)
theorem mono_X5_effectOf {x1 : Int32} {x2 : Int32} {st : St} {Q Q' : Int32 → St → Prop} (h : ∀ x0_ x1_, Q x0_ x1_ → Q' x0_ x1_) : wp_X5_effectOf x1 x2 st Q → wp_X5_effectOf x1 x2 st Q' := by
  unfold wp_X5_effectOf
  repeat' first | with_reducible exact h _ _ | with_reducible exact id | with_reducible refine And.imp ?_ ?_ | with_reducible refine mono_X5_isRule (fun _ _ => ?_) | with_reducible refine m_arr ?_ ?_ | with_reducible refine m_all (fun _ => ?_)
theorem mono_X5_targetOf {x1 : Int32} {x2 : Int32} {x3 : Int32} {st : St} {Q Q' : Int32 → St → Prop} (h : ∀ x0_ x1_, Q x0_ x1_ → Q' x0_ x1_) : wp_X5_targetOf x1 x2 x3 st Q → wp_X5_targetOf x1 x2 x3 st Q' := by
  unfold wp_X5_targetOf
  repeat' first | with_reducible exact h _ _ | with_reducible exact id | with_reducible refine And.imp ?_ ?_ | with_reducible refine mono_X5_isRule (fun _ _ => ?_) | with_reducible refine mono_X5_in (fun _ _ => ?_) | with_reducible refine m_arr ?_ ?_ | with_reducible refine m_all (fun _ => ?_)
theorem mono_X5_algorithmOf {x1 : Int32} {st : St} {Q Q' : Int32 → St → Prop} (h : ∀ x0_ x1_, Q x0_ x1_ → Q' x0_ x1_) : wp_X5_algorithmOf x1 st Q → wp_X5_algorithmOf x1 st Q' := by
  unfold wp_X5_algorithmOf
  repeat' first | with_reducible exact h _ _ | with_reducible exact id | with_reducible refine And.imp ?_ ?_ | with_reducible refine mono_X5_isPolicy (fun _ _ => ?_) | with_reducible refine m_arr ?_ ?_ | with_reducible refine m_all (fun _ => ?_)
theorem mono_X5_partOf {x0 : Int32} {x1 : Int32} {st : St} {Q Q' : Int32 → St → Prop} (h : ∀ x0_ x1_, Q x0_ x1_ → Q' x0_ x1_) : wp_X5_partOf x0 x1 st Q → wp_X5_partOf x0 x1 st Q' := by
  unfold wp_X5_partOf
  repeat' first | with_reducible exact h _ _ | with_reducible exact id | with_reducible refine And.imp ?_ ?_ | with_reducible refine m_arr ?_ ?_ | with_reducible refine m_all (fun _ => ?_)
theorem mono_X5_rulesFor {x1 : Int32} {x2 : Int32} {st : St} {Q Q' : Int32 → St → Prop} (h : ∀ x0_ x1_, Q x0_ x1_ → Q' x0_ x1_) : wp_X5_rulesFor x1 x2 st Q → wp_X5_rulesFor x1 x2 st Q' := by
  unfold wp_X5_rulesFor
  repeat' first | with_reducible exact h _ _ | with_reducible exact id | with_reducible refine And.imp ?_ ?_ | with_reducible refine mono_X5_partOf (fun _ _ => ?_) | with_reducible refine mono_X5_has (fun _ _ => ?_) | with_reducible refine m_arr ?_ ?_ | with_reducible refine m_all (fun _ => ?_)
theorem mono_X5_bits {x0 : Int32} {st : St} {Q Q' : Int32 → St → Prop} (h : ∀ x0_ x1_, Q x0_ x1_ → Q' x0_ x1_) : wp_X5_bits x0 st Q → wp_X5_bits x0 st Q' := by
  unfold wp_X5_bits
  repeat' first | with_reducible exact h _ _ | with_reducible exact id | with_reducible refine And.imp ?_ ?_ | with_reducible refine m_arr ?_ ?_ | with_reducible refine m_all (fun _ => ?_)
theorem mono_X5_permits {x1 : Int32} {st : St} {Q Q' : Int32 → St → Prop} (h : ∀ x0_ x1_, Q x0_ x1_ → Q' x0_ x1_) : wp_X5_permits x1 st Q → wp_X5_permits x1 st Q' := by
  unfold wp_X5_permits
  repeat' first | with_reducible exact h _ _ | with_reducible exact id | with_reducible refine And.imp ?_ ?_ | with_reducible refine m_arr ?_ ?_ | with_reducible refine m_all (fun _ => ?_)
theorem mono_X5_decided {x0 : Int32} {x1 : Int32} {x2 : Int32} {st : St} {Q Q' : Int32 → St → Prop} (h : ∀ x0_ x1_, Q x0_ x1_ → Q' x0_ x1_) : wp_X5_decided x0 x1 x2 st Q → wp_X5_decided x0 x1 x2 st Q' := by
  unfold wp_X5_decided
  repeat' first | with_reducible exact h _ _ | with_reducible exact id | with_reducible refine And.imp ?_ ?_ | with_reducible refine mono_X5_bits (fun _ _ => ?_) | with_reducible refine m_arr ?_ ?_ | with_reducible refine m_all (fun _ => ?_)
theorem mono_X5_decision {x1 : Int32} {x2 : Int32} {st : St} {Q Q' : Int32 → St → Prop} (h : ∀ x0_ x1_, Q x0_ x1_ → Q' x0_ x1_) : wp_X5_decision x1 x2 st Q → wp_X5_decision x1 x2 st Q' := by
  unfold wp_X5_decision
  repeat' first | with_reducible exact h _ _ | with_reducible exact id | with_reducible refine And.imp ?_ ?_ | with_reducible refine mono_X5_rulesFor (fun _ _ => ?_) | with_reducible refine mono_X5_permits (fun _ _ => ?_) | with_reducible refine mono_X5_decided (fun _ _ => ?_) | with_reducible refine m_arr ?_ ?_ | with_reducible refine m_all (fun _ => ?_)
theorem mono_X5_isRequest {x0 : Int32} {st : St} {Q Q' : Int32 → St → Prop} (h : ∀ x0_ x1_, Q x0_ x1_ → Q' x0_ x1_) : wp_X5_isRequest x0 st Q → wp_X5_isRequest x0 st Q' := by
  unfold wp_X5_isRequest
  repeat' first | with_reducible exact h _ _ | with_reducible exact id | with_reducible refine And.imp ?_ ?_ | with_reducible refine mono_X5_in (fun _ _ => ?_) | with_reducible refine m_arr ?_ ?_ | with_reducible refine m_all (fun _ => ?_)
theorem mono_X5_decide {x1 : Int32} {x2 : Int32} {st : St} {Q Q' : Int32 → St → Prop} (h : ∀ x0_ x1_, Q x0_ x1_ → Q' x0_ x1_) : wp_X5_decide x1 x2 st Q → wp_X5_decide x1 x2 st Q' := by
  unfold wp_X5_decide
  repeat' first | with_reducible exact h _ _ | with_reducible exact id | with_reducible refine And.imp ?_ ?_ | with_reducible refine mono_X5_isPolicy (fun _ _ => ?_) | with_reducible refine mono_X5_isRequest (fun _ _ => ?_) | with_reducible refine mono_X5_decision (fun _ _ => ?_) | with_reducible refine m_arr ?_ ?_ | with_reducible refine m_all (fun _ => ?_)
theorem mono_X5_decisionCount {x1 : Int32} {x2 : Int32} {st : St} {Q Q' : Int32 → St → Prop} (h : ∀ x0_ x1_, Q x0_ x1_ → Q' x0_ x1_) : wp_X5_decisionCount x1 x2 st Q → wp_X5_decisionCount x1 x2 st Q' := by
  unfold wp_X5_decisionCount
  repeat' first | with_reducible exact h _ _ | with_reducible exact id | with_reducible refine And.imp ?_ ?_ | with_reducible refine mono_X5_decision (fun _ _ => ?_) | with_reducible refine mono_X5_isPolicy (fun _ _ => ?_) | with_reducible refine mono_X5_in (fun _ _ => ?_) | with_reducible refine m_arr ?_ ?_ | with_reducible refine m_all (fun _ => ?_)
theorem mono_X5_applicableRules {x1 : Int32} {x2 : Int32} {st : St} {Q Q' : Int32 → St → Prop} (h : ∀ x0_ x1_, Q x0_ x1_ → Q' x0_ x1_) : wp_X5_applicableRules x1 x2 st Q → wp_X5_applicableRules x1 x2 st Q' := by
  unfold wp_X5_applicableRules
  repeat' first | with_reducible exact h _ _ | with_reducible exact id | with_reducible refine And.imp ?_ ?_ | with_reducible refine mono_X5_isPolicy (fun _ _ => ?_) | with_reducible refine mono_X5_isRequest (fun _ _ => ?_) | with_reducible refine mono_X5_rulesFor (fun _ _ => ?_) | with_reducible refine mono_X5_bits (fun _ _ => ?_) | with_reducible refine m_arr ?_ ?_ | with_reducible refine m_all (fun _ => ?_)
theorem mono_X5_gains {x1 : Int32} {st : St} {Q Q' : Int32 → St → Prop} (h : ∀ x0_ x1_, Q x0_ x1_ → Q' x0_ x1_) : wp_X5_gains x1 st Q → wp_X5_gains x1 st Q' := by
  unfold wp_X5_gains
  repeat' first | with_reducible exact h _ _ | with_reducible exact id | with_reducible refine And.imp ?_ ?_ | with_reducible refine mono_X5_decision (fun _ _ => ?_) | with_reducible refine m_arr ?_ ?_ | with_reducible refine m_all (fun _ => ?_)
theorem mono_X5_loses {x1 : Int32} {st : St} {Q Q' : Int32 → St → Prop} (h : ∀ x0_ x1_, Q x0_ x1_ → Q' x0_ x1_) : wp_X5_loses x1 st Q → wp_X5_loses x1 st Q' := by
  unfold wp_X5_loses
  repeat' first | with_reducible exact h _ _ | with_reducible exact id | with_reducible refine And.imp ?_ ?_ | with_reducible refine mono_X5_decision (fun _ _ => ?_) | with_reducible refine m_arr ?_ ?_ | with_reducible refine m_all (fun _ => ?_)
theorem mono_X5_gainCount {st : St} {Q Q' : Int32 → St → Prop} (h : ∀ x0_ x1_, Q x0_ x1_ → Q' x0_ x1_) : wp_X5_gainCount  st Q → wp_X5_gainCount  st Q' := by
  unfold wp_X5_gainCount
  repeat' first | with_reducible exact h _ _ | with_reducible exact id | with_reducible refine And.imp ?_ ?_ | with_reducible refine mono_X5_gains (fun _ _ => ?_) | with_reducible refine m_arr ?_ ?_ | with_reducible refine m_all (fun _ => ?_)
theorem mono_X5_lossCount {st : St} {Q Q' : Int32 → St → Prop} (h : ∀ x0_ x1_, Q x0_ x1_ → Q' x0_ x1_) : wp_X5_lossCount  st Q → wp_X5_lossCount  st Q' := by
  unfold wp_X5_lossCount
  repeat' first | with_reducible exact h _ _ | with_reducible exact id | with_reducible refine And.imp ?_ ?_ | with_reducible refine mono_X5_loses (fun _ _ => ?_) | with_reducible refine m_arr ?_ ?_ | with_reducible refine m_all (fun _ => ?_)
theorem mono_X5_gainCountOf {x1 : Int32} {x2 : Int32} {st : St} {Q Q' : Int32 → St → Prop} (h : ∀ x0_ x1_, Q x0_ x1_ → Q' x0_ x1_) : wp_X5_gainCountOf x1 x2 st Q → wp_X5_gainCountOf x1 x2 st Q' := by
  unfold wp_X5_gainCountOf
  repeat' first | with_reducible exact h _ _ | with_reducible exact id | with_reducible refine And.imp ?_ ?_ | with_reducible refine mono_X5_partOf (fun _ _ => ?_) | with_reducible refine mono_X5_gains (fun _ _ => ?_) | with_reducible refine mono_X5_in (fun _ _ => ?_) | with_reducible refine mono_X5_valuesOf (fun _ _ => ?_) | with_reducible refine m_arr ?_ ?_ | with_reducible refine m_all (fun _ => ?_)
theorem mono_X5_nextGain {x1 : Int32} {st : St} {Q Q' : Int32 → St → Prop} (h : ∀ x0_ x1_, Q x0_ x1_ → Q' x0_ x1_) : wp_X5_nextGain x1 st Q → wp_X5_nextGain x1 st Q' := by
  unfold wp_X5_nextGain
  repeat' first | with_reducible exact h _ _ | with_reducible exact id | with_reducible refine And.imp ?_ ?_ | with_reducible refine mono_X5_gains (fun _ _ => ?_) | with_reducible refine mono_X5_isRequest (fun _ _ => ?_) | with_reducible refine m_arr ?_ ?_ | with_reducible refine m_all (fun _ => ?_)
theorem mono_X5_nextLoss {x1 : Int32} {st : St} {Q Q' : Int32 → St → Prop} (h : ∀ x0_ x1_, Q x0_ x1_ → Q' x0_ x1_) : wp_X5_nextLoss x1 st Q → wp_X5_nextLoss x1 st Q' := by
  unfold wp_X5_nextLoss
  repeat' first | with_reducible exact h _ _ | with_reducible exact id | with_reducible refine And.imp ?_ ?_ | with_reducible refine mono_X5_loses (fun _ _ => ?_) | with_reducible refine mono_X5_isRequest (fun _ _ => ?_) | with_reducible refine m_arr ?_ ?_ | with_reducible refine m_all (fun _ => ?_)
theorem mono_X5_transitionCount {x1 : Int32} {x2 : Int32} {st : St} {Q Q' : Int32 → St → Prop} (h : ∀ x0_ x1_, Q x0_ x1_ → Q' x0_ x1_) : wp_X5_transitionCount x1 x2 st Q → wp_X5_transitionCount x1 x2 st Q' := by
  unfold wp_X5_transitionCount
  repeat' first | with_reducible exact h _ _ | with_reducible exact id | with_reducible refine And.imp ?_ ?_ | with_reducible refine mono_X5_decision (fun _ _ => ?_) | with_reducible refine mono_X5_in (fun _ _ => ?_) | with_reducible refine m_arr ?_ ?_ | with_reducible refine m_all (fun _ => ?_)
theorem mono_X5_grantedShareBits {x1 : Int32} {st : St} {Q Q' : Int32 → St → Prop} (h : ∀ x0_ x1_, Q x0_ x1_ → Q' x0_ x1_) : wp_X5_grantedShareBits x1 st Q → wp_X5_grantedShareBits x1 st Q' := by
  unfold wp_X5_grantedShareBits
  repeat' first | with_reducible exact h _ _ | with_reducible exact id | with_reducible refine And.imp ?_ ?_ | with_reducible refine mono_X5_isPolicy (fun _ _ => ?_) | with_reducible refine mono_X5_decisionCount (fun _ _ => ?_) | with_reducible refine m_arr ?_ ?_ | with_reducible refine m_all (fun _ => ?_)
theorem mono_X5_looks {x1 : Int32} {st : St} {Q Q' : St → Prop} (h : ∀ x0_, Q x0_ → Q' x0_) : wp_X5_looks x1 st Q → wp_X5_looks x1 st Q' := by
  unfold wp_X5_looks
  repeat' first | with_reducible exact h _ | with_reducible exact id | with_reducible refine And.imp ?_ ?_ | with_reducible refine mono_X5_rulesFor (fun _ _ => ?_) | with_reducible refine m_arr ?_ ?_ | with_reducible refine m_all (fun _ => ?_)
theorem mono_X5_shows {x1 : Int32} {x2 : Int32} {x3 : Int32} {st : St} {Q Q' : Int32 → St → Prop} (h : ∀ x0_ x1_, Q x0_ x1_ → Q' x0_ x1_) : wp_X5_shows x1 x2 x3 st Q → wp_X5_shows x1 x2 x3 st Q' := by
  unfold wp_X5_shows
  repeat' first | with_reducible exact h _ _ | with_reducible exact id | with_reducible refine And.imp ?_ ?_ | with_reducible refine mono_X5_has (fun _ _ => ?_) | with_reducible refine mono_X5_decided (fun _ _ => ?_) | with_reducible refine mono_X5_permits (fun _ _ => ?_) | with_reducible refine m_arr ?_ ?_ | with_reducible refine m_all (fun _ => ?_)
theorem mono_X5_witness {x1 : Int32} {x2 : Int32} {st : St} {Q Q' : Int32 → St → Prop} (h : ∀ x0_ x1_, Q x0_ x1_ → Q' x0_ x1_) : wp_X5_witness x1 x2 st Q → wp_X5_witness x1 x2 st Q' := by
  unfold wp_X5_witness
  repeat' first | with_reducible exact h _ _ | with_reducible exact id | with_reducible refine And.imp ?_ ?_ | with_reducible refine mono_X5_isRule (fun _ _ => ?_) | with_reducible refine mono_X5_looks (fun _ => ?_) | with_reducible refine mono_X5_shows (fun _ _ => ?_) | with_reducible refine m_arr ?_ ?_ | with_reducible refine m_all (fun _ => ?_)
theorem mono_X5_isRedundant {x1 : Int32} {x2 : Int32} {st : St} {Q Q' : Int32 → St → Prop} (h : ∀ x0_ x1_, Q x0_ x1_ → Q' x0_ x1_) : wp_X5_isRedundant x1 x2 st Q → wp_X5_isRedundant x1 x2 st Q' := by
  unfold wp_X5_isRedundant
  repeat' first | with_reducible exact h _ _ | with_reducible exact id | with_reducible refine And.imp ?_ ?_ | with_reducible refine mono_X5_witness (fun _ _ => ?_) | with_reducible refine m_arr ?_ ?_ | with_reducible refine m_all (fun _ => ?_)
theorem mono_X5_irredundantCore {x1 : Int32} {st : St} {Q Q' : Int32 → St → Prop} (h : ∀ x0_ x1_, Q x0_ x1_ → Q' x0_ x1_) : wp_X5_irredundantCore x1 st Q → wp_X5_irredundantCore x1 st Q' := by
  unfold wp_X5_irredundantCore
  repeat' first | with_reducible exact h _ _ | with_reducible exact id | with_reducible refine And.imp ?_ ?_ | with_reducible refine mono_X5_has (fun _ _ => ?_) | with_reducible refine mono_X5_shows (fun _ _ => ?_) | with_reducible refine mono_X5_isPolicy (fun _ _ => ?_) | with_reducible refine mono_X5_looks (fun _ => ?_) | with_reducible refine m_arr ?_ ?_ | with_reducible refine m_all (fun _ => ?_)
theorem mono_X5_isWithoutGain {x1 : Int32} {st : St} {Q Q' : Int32 → St → Prop} (h : ∀ x0_ x1_, Q x0_ x1_ → Q' x0_ x1_) : wp_X5_isWithoutGain x1 st Q → wp_X5_isWithoutGain x1 st Q' := by
  unfold wp_X5_isWithoutGain
  repeat' first | with_reducible exact h _ _ | with_reducible exact id | with_reducible refine And.imp ?_ ?_ | with_reducible refine mono_X5_decided (fun _ _ => ?_) | with_reducible refine mono_X5_permits (fun _ _ => ?_) | with_reducible refine m_arr ?_ ?_ | with_reducible refine m_all (fun _ => ?_)
theorem mono_X5_leastRemoval {st : St} {Q Q' : Int32 → St → Prop} (h : ∀ x0_ x1_, Q x0_ x1_ → Q' x0_ x1_) : wp_X5_leastRemoval  st Q → wp_X5_leastRemoval  st Q' := by
  unfold wp_X5_leastRemoval
  repeat' first | with_reducible exact h _ _ | with_reducible exact id | with_reducible refine And.imp ?_ ?_ | with_reducible refine mono_X5_decision (fun _ _ => ?_) | with_reducible refine mono_X5_bits (fun _ _ => ?_) | with_reducible refine mono_X5_isWithoutGain (fun _ _ => ?_) | with_reducible refine mono_X5_looks (fun _ => ?_) | with_reducible refine m_arr ?_ ?_ | with_reducible refine m_all (fun _ => ?_)
theorem mono_X5_historySize {st : St} {Q Q' : Int32 → St → Prop} (h : ∀ x0_ x1_, Q x0_ x1_ → Q' x0_ x1_) : wp_X5_historySize  st Q → wp_X5_historySize  st Q' := by
  unfold wp_X5_historySize
  repeat' first | with_reducible exact h _ _ | with_reducible exact id | with_reducible refine And.imp ?_ ?_ | with_reducible refine m_arr ?_ ?_ | with_reducible refine m_all (fun _ => ?_)
