def wp_X4_isPolicy (x0 : Int32) (st : St) (Q : Int32 → St → Prop) : Prop :=
  (x0 = 0 → (Q (1 : Int32) st)) ∧ (¬ x0 = 0 → ((x0 = (1 : Int32) → (Q (1 : Int32) st)) ∧ (¬ x0 = (1 : Int32) → (Q (0 : Int32) st))))

def wp_X4_isEffect (x0 : Int32) (st : St) (Q : Int32 → St → Prop) : Prop :=
  (x0 = 0 → (Q (1 : Int32) st)) ∧ (¬ x0 = 0 → ((x0 = (1 : Int32) → (Q (1 : Int32) st)) ∧ (¬ x0 = (1 : Int32) → (Q (0 : Int32) st))))

def wp_X4_isAttribute (x0 : Int32) (st : St) (Q : Int32 → St → Prop) : Prop :=
  (x0 < 0 → (Q (0 : Int32) st)) ∧ (¬ x0 < 0 → (((4 : Int32) ≤ x0 → (Q (0 : Int32) st)) ∧ (¬ (4 : Int32) ≤ x0 → (Q (1 : Int32) st))))

def wp_X4_isRequest (x0 : Int32) (st : St) (Q : Int32 → St → Prop) : Prop :=
  (x0 < 0 → (Q (0 : Int32) st)) ∧ (¬ x0 < 0 → (((1024 : Int32) ≤ x0 → (Q (0 : Int32) st)) ∧ (¬ (1024 : Int32) ≤ x0 → (Q (1 : Int32) st))))

def wp_X4_isDecision (x0 : Int32) (st : St) (Q : Int32 → St → Prop) : Prop :=
  (x0 < 0 → (Q (0 : Int32) st)) ∧ (¬ x0 < 0 → (((3 : Int32) < x0 → (Q (0 : Int32) st)) ∧ (¬ (3 : Int32) < x0 → (Q (1 : Int32) st))))

def wp_X4_isValueSet (x0 : Int32) (x1 : Int32) (st : St) (Q : Int32 → St → Prop) : Prop :=
  (x1 ≤ 0 → (Q (0 : Int32) st)) ∧ (¬ x1 ≤ 0 → (vp_in x0 4 ∧ ((((1 : Int32) <<< ((vcF x0.toNatClampNeg) &&& (31 : Int32))) ≤ x1 → (Q (0 : Int32) st)) ∧ (¬ ((1 : Int32) <<< ((vcF x0.toNatClampNeg) &&& (31 : Int32))) ≤ x1 → (Q (1 : Int32) st)))))

def wp_X4_policyNumbered (x1 : Int32) (st : St) (Q : Nat → St → Prop) : Prop :=
  (x1 = 0 → (Q 1 st)) ∧ (¬ x1 = 0 → (Q 3 st))

def wp_X4_isRule (x1 : Int32) (x2 : Int32) (st : St) (Q : Int32 → St → Prop) : Prop :=
  wp_X4_isPolicy x1 st (fun r_2 s_1 => (r_2 = 0 → (Q (0 : Int32) s_1)) ∧ (¬ r_2 = 0 → ((x2 < 0 → (Q (0 : Int32) s_1)) ∧ (¬ x2 < 0 → (wp_X4_policyNumbered x1 s_1 (fun k_4 s_3 => isPol k_4 ∧ (wp_X1_size k_4 s_3 (fun r_6 s_5 => (r_6 ≤ x2 → (Q (0 : Int32) s_5)) ∧ (¬ r_6 ≤ x2 → (Q (1 : Int32) s_5))))))))))

def wp_X4_valueIn (x0 : Int32) (x1 : Int32) (st : St) (Q : Int32 → St → Prop) : Prop :=
  vp_in x1 4 ∧ (vp_in x1 4 ∧ (Q ((x0 >>> ((rsF x1.toNatClampNeg) &&& (31 : Int32))) &&& ((vcF x1.toNatClampNeg) - (1 : Int32))) st))

def wp_X4_takeDrafts  (st : St) (Q : St → Prop) : Prop :=
  wp_X2_oldDraft st (fun k_2 s_1 => isPol k_2 ∧ (wp_X1_copyFrom 1 k_2 s_1 (fun s_3 => wp_X2_newDraft s_3 (fun k_5 s_4 => isPol k_5 ∧ (wp_X1_copyFrom 3 k_5 s_4 (fun s_6 => Q s_6))))))

def wp_X4_requestsDecided (k0 : Nat) (x1 : Int32) (st : St) (Q : Int32 → St → Prop) : Prop :=
  ∀ (P4 : Int32 → Int32 → St → Prop), 
  (∀ (x2 : Int32) (x3 : Int32) (st : St), (((1024 : Int32) ≤ x3 → (Q x2 st)) ∧ (¬ (1024 : Int32) ≤ x3 → (wp_X1_decisionOn k0 x3 st (fun r_2 s_1 => (r_2 = x1 → (∀ x2_4 : Int32, x2_4 = x2 + (1 : Int32) → ∀ x3_5 : Int32, x3_5 = x3 + (1 : Int32) → P4 x2_4 x3_5 s_1)) ∧ (¬ r_2 = x1 → (∀ x3_3 : Int32, x3_3 = x3 + (1 : Int32) → P4 x2 x3_3 s_1)))))) → P4 x2 x3 st) →
  P4 (0 : Int32) (0 : Int32) st

def wp_X4_isGrantedOnlyBy (k0 : Nat) (k1 : Nat) (x2 : Int32) (st : St) (Q : Int32 → St → Prop) : Prop :=
  wp_X1_decisionOn k0 x2 st (fun r_2 s_1 => (r_2 = 0 → (wp_X1_decisionOn k1 x2 s_1 (fun r_4 s_3 => (r_4 = 0 → (Q (0 : Int32) s_3)) ∧ (¬ r_4 = 0 → (Q (1 : Int32) s_3))))) ∧ (¬ r_2 = 0 → (Q (0 : Int32) s_1)))

def wp_X4_countGranted (k0 : Nat) (k1 : Nat) (st : St) (Q : Int32 → St → Prop) : Prop :=
  ∀ (P4 : Int32 → Int32 → St → Prop), 
  (∀ (x2 : Int32) (x3 : Int32) (st : St), (((1024 : Int32) ≤ x3 → (Q x2 st)) ∧ (¬ (1024 : Int32) ≤ x3 → (wp_X4_isGrantedOnlyBy k0 k1 x3 st (fun r_2 s_1 => (r_2 = 0 → (∀ x3_3 : Int32, x3_3 = x3 + (1 : Int32) → P4 x2 x3_3 s_1)) ∧ (¬ r_2 = 0 → (∀ x2_4 : Int32, x2_4 = x2 + (1 : Int32) → ∀ x3_5 : Int32, x3_5 = x3 + (1 : Int32) → P4 x2_4 x3_5 s_1)))))) → P4 x2 x3 st) →
  P4 (0 : Int32) (0 : Int32) st

def wp_X4_nextGranted (k0 : Nat) (k1 : Nat) (x2 : Int32) (st : St) (Q : Int32 → St → Prop) : Prop :=
  ∀ (P2 : Int32 → St → Prop), 
  (∀ (x3 : Int32) (st : St), (((1024 : Int32) ≤ x3 → (Q (-4 : Int32) st)) ∧ (¬ (1024 : Int32) ≤ x3 → (wp_X4_isGrantedOnlyBy k0 k1 x3 st (fun r_2 s_1 => (r_2 = 0 → (∀ x3_3 : Int32, x3_3 = x3 + (1 : Int32) → P2 x3_3 s_1)) ∧ (¬ r_2 = 0 → (Q x3 s_1)))))) → P2 x3 st) →
  P2 x2 st

def wp_X4_shareBits (x0 : Int32) (st : St) (Q : Int32 → St → Prop) : Prop :=
  (0 < x0 → (wp_J6_numberOfLeadingZeros_0f7a4 x0 st (fun r_2 s_1 => ∀ x1_3 : Int32, x1_3 = (31 : Int32) - r_2 → ∀ x2_4 : Int32, x2_4 = (117 : Int32) + x1_3 → ∀ x3_5 : Int32, x3_5 = (x0 <<< (((23 : Int32) - x1_3) &&& (31 : Int32))) &&& (8388607 : Int32) → Q ((x2_4 <<< ((23 : Int32) &&& (31 : Int32))) ||| x3_5) s_1))) ∧ (¬ 0 < x0 → (Q (0 : Int32) st))

def wp_X4_firstChangeWithout (k0 : Nat) (x1 : Int32) (st : St) (Q : Int32 → St → Prop) : Prop :=
  ∀ (P8 : Int32 → Int32 → St → Prop), 
  (∀ (x2 : Int32) (x3 : Int32) (st : St), (((1024 : Int32) ≤ x3 → (Q (-4 : Int32) st)) ∧ (¬ (1024 : Int32) ≤ x3 → (wp_X1_applying k0 x3 st (fun r_2 s_1 => wp_X1_decisionAmong k0 r_2 s_1 (fun r_4 s_3 => wp_X1_decisionAmong k0 (r_2 &&& x2) s_3 (fun r_6 s_5 => (r_4 = r_6 → (∀ x3_7 : Int32, x3_7 = x3 + (1 : Int32) → P8 x2 x3_7 s_5)) ∧ (¬ r_4 = r_6 → (Q x3 s_5)))))))) → P8 x2 x3 st) →
  ∀ x2_10 : Int32, x2_10 = ((1 : Int32) <<< (x1 &&& (31 : Int32))) ^^^ (-1 : Int32) → P8 x2_10 (0 : Int32) st

def wp_X4_lowestRedundant (k1 : Nat) (x2 : Int32) (st : St) (Q : Int32 → St → Prop) : Prop :=
  ∀ (P2 : Int32 → St → Prop), 
  (∀ (x3 : Int32) (st : St), (((8 : Int32) ≤ x3 → (Q (0 : Int32) st)) ∧ (¬ (8 : Int32) ≤ x3 → (∀ x4_1 : Int32, x4_1 = (1 : Int32) <<< (x3 &&& (31 : Int32)) → ((x2 &&& x4_1) = 0 → (∀ x3_2 : Int32, x3_2 = x3 + (1 : Int32) → P2 x3_2 st)) ∧ (¬ (x2 &&& x4_1) = 0 → (wp_X3_sameDecisions k1 x2 (x2 &&& (x4_1 ^^^ (-1 : Int32))) st (fun r_4 s_3 => (r_4 = 0 → (∀ x3_5 : Int32, x3_5 = x3 + (1 : Int32) → P2 x3_5 s_3)) ∧ (¬ r_4 = 0 → (Q x4_1 s_3)))))))) → P2 x3 st) →
  P2 (0 : Int32) st

def wp_X4_append (x1 : Int32) (st : St) (Q : Int32 → St → Prop) : Prop :=
  (x1 < (32 : Int32) → (Q (-1 : Int32) st)) ∧ (¬ x1 < (32 : Int32) → ((x1 ≤ (126 : Int32) → (wp_X2_add (toChr x1) st (fun r_2 s_1 => (r_2 = 0 → (Q (-2 : Int32) s_1)) ∧ (¬ r_2 = 0 → (wp_X2_length s_1 (fun r_4 s_3 => Q r_4 s_3)))))) ∧ (¬ x1 ≤ (126 : Int32) → (Q (-1 : Int32) st))))

def wp_X4_clearText  (st : St) (Q : Int32 → St → Prop) : Prop :=
  wp_X2_length st (fun r_2 s_1 => wp_X2_empty s_1 (fun s_3 => Q r_2 s_3))

def wp_X4_syntaxError  (st : St) (Q : Int32 → St → Prop) : Prop :=
  wp_X2_firstMalformed st (fun r_2 s_1 => Q r_2 s_1)

def wp_X4_load  (st : St) (Q : Int32 → St → Prop) : Prop :=
  wp_X2_firstMalformed st (fun r_2 s_1 => (r_2 = (-4 : Int32) → (wp_X4_takeDrafts s_1 (fun s_3 => wp_X0_forgetAll s_3 (fun s_4 => wp_X1_size 1 s_4 (fun r_6 s_5 => wp_X1_size 3 s_5 (fun r_8 s_7 => Q (r_6 + r_8) s_7)))))) ∧ (¬ r_2 = (-4 : Int32) → (Q (-3 : Int32) s_1)))

def wp_X4_addRule (x1 : Int32) (x2 : Int32) (x3 : Int32) (st : St) (Q : Int32 → St → Prop) : Prop :=
  wp_X4_isPolicy x1 st (fun r_2 s_1 => (r_2 = 0 → (Q (-1 : Int32) s_1)) ∧ (¬ r_2 = 0 → (wp_X4_isEffect x3 s_1 (fun r_4 s_3 => (r_4 = 0 → (Q (-1 : Int32) s_3)) ∧ (¬ r_4 = 0 → (wp_X4_policyNumbered x1 s_3 (fun k_6 s_5 => isPol k_6 ∧ ((x2 < 0 → (Q (-1 : Int32) s_5)) ∧ (¬ x2 < 0 → (wp_X1_size k_6 s_5 (fun r_8 s_7 => (x2 ≤ r_8 → (wp_X1_size k_6 s_7 (fun r_10 s_9 => (r_10 < (8 : Int32) → (wp_X0_remember x1 k_6 s_9 (fun s_11 => wp_X1_insertRule k_6 x2 x3 s_11 (fun s_12 => wp_X1_size k_6 s_12 (fun r_14 s_13 => Q r_14 s_13))))) ∧ (¬ r_10 < (8 : Int32) → (Q (-2 : Int32) s_9))))) ∧ (¬ x2 ≤ r_8 → (Q (-1 : Int32) s_7)))))))))))))

def wp_X4_removeRule (x1 : Int32) (x2 : Int32) (st : St) (Q : Int32 → St → Prop) : Prop :=
  wp_X4_isRule x1 x2 st (fun r_2 s_1 => (r_2 = 0 → (Q (-1 : Int32) s_1)) ∧ (¬ r_2 = 0 → (wp_X4_policyNumbered x1 s_1 (fun k_4 s_3 => isPol k_4 ∧ (wp_X0_remember x1 k_4 s_3 (fun s_5 => wp_X1_dropRule k_4 x2 s_5 (fun s_6 => wp_X1_size k_4 s_6 (fun r_8 s_7 => Q r_8 s_7))))))))

def wp_X4_moveRule (x1 : Int32) (x2 : Int32) (x3 : Int32) (st : St) (Q : Int32 → St → Prop) : Prop :=
  wp_X4_isRule x1 x2 st (fun r_2 s_1 => (r_2 = 0 → (Q (-1 : Int32) s_1)) ∧ (¬ r_2 = 0 → (wp_X4_isRule x1 x3 s_1 (fun r_4 s_3 => (r_4 = 0 → (Q (-1 : Int32) s_3)) ∧ (¬ r_4 = 0 → ((x2 = x3 → (Q (-3 : Int32) s_3)) ∧ (¬ x2 = x3 → (wp_X4_policyNumbered x1 s_3 (fun k_6 s_5 => isPol k_6 ∧ (wp_X0_remember x1 k_6 s_5 (fun s_7 => wp_X1_shiftRule k_6 x2 x3 s_7 (fun s_8 => wp_X1_effectAt k_6 x3 s_8 (fun r_10 s_9 => Q r_10 s_9)))))))))))))

def wp_X4_setAlgorithm (x1 : Int32) (x2 : Int32) (st : St) (Q : Int32 → St → Prop) : Prop :=
  wp_X4_isPolicy x1 st (fun r_2 s_1 => (r_2 = 0 → (Q (-1 : Int32) s_1)) ∧ (¬ r_2 = 0 → ((x2 < 0 → (Q (-1 : Int32) s_1)) ∧ (¬ x2 < 0 → ((x2 ≤ (4 : Int32) → (wp_X4_policyNumbered x1 s_1 (fun k_4 s_3 => isPol k_4 ∧ (wp_X1_algorithm k_4 s_3 (fun r_6 s_5 => (r_6 = x2 → (Q (-3 : Int32) s_5)) ∧ (¬ r_6 = x2 → (wp_X0_remember x1 k_4 s_5 (fun s_7 => wp_X1_use k_4 x2 s_7 (fun s_8 => Q r_6 s_8))))))))) ∧ (¬ x2 ≤ (4 : Int32) → (Q (-1 : Int32) s_1)))))))

def wp_X4_setTarget (x1 : Int32) (x2 : Int32) (x3 : Int32) (x4 : Int32) (st : St) (Q : Int32 → St → Prop) : Prop :=
  wp_X4_isRule x1 x2 st (fun r_2 s_1 => (r_2 = 0 → (Q (-1 : Int32) s_1)) ∧ (¬ r_2 = 0 → (wp_X4_isAttribute x3 s_1 (fun r_4 s_3 => (r_4 = 0 → (Q (-1 : Int32) s_3)) ∧ (¬ r_4 = 0 → (wp_X4_isValueSet x3 x4 s_3 (fun r_6 s_5 => (r_6 = 0 → (Q (-1 : Int32) s_5)) ∧ (¬ r_6 = 0 → (wp_X4_policyNumbered x1 s_5 (fun k_8 s_7 => isPol k_8 ∧ (wp_X1_valuesAt k_8 x2 x3 s_7 (fun r_10 s_9 => (r_10 = x4 → (Q (-3 : Int32) s_9)) ∧ (¬ r_10 = x4 → (wp_X0_remember x1 k_8 s_9 (fun s_11 => wp_X1_restrict k_8 x2 x3 x4 s_11 (fun s_12 => Q r_10 s_12))))))))))))))))

def wp_X4_flipEffect (x1 : Int32) (x2 : Int32) (st : St) (Q : Int32 → St → Prop) : Prop :=
  wp_X4_isRule x1 x2 st (fun r_2 s_1 => (r_2 = 0 → (Q (-1 : Int32) s_1)) ∧ (¬ r_2 = 0 → (wp_X4_policyNumbered x1 s_1 (fun k_4 s_3 => isPol k_4 ∧ (wp_X0_remember x1 k_4 s_3 (fun s_5 => wp_X1_turnEffect k_4 x2 s_5 (fun s_6 => wp_X1_effectAt k_4 x2 s_6 (fun r_8 s_7 => Q r_8 s_7))))))))

def wp_X4_copyOldToNew  (st : St) (Q : Int32 → St → Prop) : Prop :=
  wp_X0_remember (1 : Int32) 3 st (fun s_1 => wp_X1_copyFrom 3 1 s_1 (fun s_2 => wp_X1_size 3 s_2 (fun r_4 s_3 => Q r_4 s_3)))

def wp_X4_undo  (st : St) (Q : Int32 → St → Prop) : Prop :=
  wp_X0_size st (fun r_2 s_1 => (r_2 = 0 → (Q (-3 : Int32) s_1)) ∧ (¬ r_2 = 0 → (wp_X0_latestNumber s_1 (fun r_4 s_3 => wp_X4_policyNumbered r_4 s_3 (fun k_6 s_5 => isPol k_6 ∧ (wp_X0_recallInto k_6 s_5 (fun s_7 => wp_X0_size s_7 (fun r_9 s_8 => Q r_9 s_8))))))))

def wp_X4_ruleCount (x1 : Int32) (st : St) (Q : Int32 → St → Prop) : Prop :=
  wp_X4_isPolicy x1 st (fun r_2 s_1 => (r_2 = 0 → (Q (-1 : Int32) s_1)) ∧ (¬ r_2 = 0 → (wp_X4_policyNumbered x1 s_1 (fun k_4 s_3 => isPol k_4 ∧ (wp_X1_size k_4 s_3 (fun r_6 s_5 => Q r_6 s_5))))))

def wp_X4_effectOf (x1 : Int32) (x2 : Int32) (st : St) (Q : Int32 → St → Prop) : Prop :=
  wp_X4_isRule x1 x2 st (fun r_2 s_1 => (r_2 = 0 → (Q (-1 : Int32) s_1)) ∧ (¬ r_2 = 0 → (wp_X4_policyNumbered x1 s_1 (fun k_4 s_3 => isPol k_4 ∧ (wp_X1_effectAt k_4 x2 s_3 (fun r_6 s_5 => Q r_6 s_5))))))

def wp_X4_targetOf (x1 : Int32) (x2 : Int32) (x3 : Int32) (st : St) (Q : Int32 → St → Prop) : Prop :=
  wp_X4_isRule x1 x2 st (fun r_2 s_1 => (r_2 = 0 → (Q (-1 : Int32) s_1)) ∧ (¬ r_2 = 0 → (wp_X4_isAttribute x3 s_1 (fun r_4 s_3 => (r_4 = 0 → (Q (-1 : Int32) s_3)) ∧ (¬ r_4 = 0 → (wp_X4_policyNumbered x1 s_3 (fun k_6 s_5 => isPol k_6 ∧ (wp_X1_valuesAt k_6 x2 x3 s_5 (fun r_8 s_7 => Q r_8 s_7)))))))))

def wp_X4_algorithmOf (x1 : Int32) (st : St) (Q : Int32 → St → Prop) : Prop :=
  wp_X4_isPolicy x1 st (fun r_2 s_1 => (r_2 = 0 → (Q (-1 : Int32) s_1)) ∧ (¬ r_2 = 0 → (wp_X4_policyNumbered x1 s_1 (fun k_4 s_3 => isPol k_4 ∧ (wp_X1_algorithm k_4 s_3 (fun r_6 s_5 => Q r_6 s_5))))))

def wp_X4_decide (x1 : Int32) (x2 : Int32) (st : St) (Q : Int32 → St → Prop) : Prop :=
  wp_X4_isPolicy x1 st (fun r_2 s_1 => (r_2 = 0 → (Q (-1 : Int32) s_1)) ∧ (¬ r_2 = 0 → (wp_X4_isRequest x2 s_1 (fun r_4 s_3 => (r_4 = 0 → (Q (-1 : Int32) s_3)) ∧ (¬ r_4 = 0 → (wp_X4_policyNumbered x1 s_3 (fun k_6 s_5 => isPol k_6 ∧ (wp_X1_decisionOn k_6 x2 s_5 (fun r_8 s_7 => Q r_8 s_7)))))))))

def wp_X4_decisionCount (x1 : Int32) (x2 : Int32) (st : St) (Q : Int32 → St → Prop) : Prop :=
  wp_X4_isPolicy x1 st (fun r_2 s_1 => (r_2 = 0 → (Q (-1 : Int32) s_1)) ∧ (¬ r_2 = 0 → (wp_X4_isDecision x2 s_1 (fun r_4 s_3 => (r_4 = 0 → (Q (-1 : Int32) s_3)) ∧ (¬ r_4 = 0 → (wp_X4_policyNumbered x1 s_3 (fun k_6 s_5 => isPol k_6 ∧ (wp_X4_requestsDecided k_6 x2 s_5 (fun r_8 s_7 => Q r_8 s_7)))))))))

def wp_X4_applicableRules (x1 : Int32) (x2 : Int32) (st : St) (Q : Int32 → St → Prop) : Prop :=
  wp_X4_isPolicy x1 st (fun r_2 s_1 => (r_2 = 0 → (Q (-1 : Int32) s_1)) ∧ (¬ r_2 = 0 → (wp_X4_isRequest x2 s_1 (fun r_4 s_3 => (r_4 = 0 → (Q (-1 : Int32) s_3)) ∧ (¬ r_4 = 0 → (wp_X4_policyNumbered x1 s_3 (fun k_6 s_5 => isPol k_6 ∧ (wp_X1_applying k_6 x2 s_5 (fun r_8 s_7 => wp_J6_bitCount_0f7a4 r_8 s_7 (fun r_10 s_9 => Q r_10 s_9))))))))))

def wp_X4_gainCount  (st : St) (Q : Int32 → St → Prop) : Prop :=
  wp_X4_countGranted 3 1 st (fun r_2 s_1 => Q r_2 s_1)

def wp_X4_lossCount  (st : St) (Q : Int32 → St → Prop) : Prop :=
  wp_X4_countGranted 1 3 st (fun r_2 s_1 => Q r_2 s_1)

def wp_X4_gainCountOf (x1 : Int32) (x2 : Int32) (st : St) (Q : Int32 → St → Prop) : Prop :=
  ∀ (P27 : Int32 → Int32 → St → Prop), 
  (∀ (x3 : Int32) (x4 : Int32) (st : St), (((1024 : Int32) ≤ x4 → (Q x3 st)) ∧ (¬ (1024 : Int32) ≤ x4 → (wp_X4_valueIn x4 x1 st (fun r_2 s_1 => (r_2 = x2 → (wp_X4_isGrantedOnlyBy 3 1 x4 s_1 (fun r_5 s_4 => (r_5 = 0 → (∀ x4_6 : Int32, x4_6 = x4 + (1 : Int32) → P27 x3 x4_6 s_4)) ∧ (¬ r_5 = 0 → (∀ x3_7 : Int32, x3_7 = x3 + (1 : Int32) → ∀ x4_8 : Int32, x4_8 = x4 + (1 : Int32) → P27 x3_7 x4_8 s_4))))) ∧ (¬ r_2 = x2 → (∀ x4_3 : Int32, x4_3 = x4 + (1 : Int32) → P27 x3 x4_3 s_1)))))) → P27 x3 x4 st) →
  wp_X4_isAttribute x1 st (fun r_13 s_12 => (r_13 = 0 → (Q (-1 : Int32) s_12)) ∧ (¬ r_13 = 0 → ((x2 < 0 → (Q (-1 : Int32) s_12)) ∧ (¬ x2 < 0 → (vp_in x1 4 ∧ ((x2 < (vcF x1.toNatClampNeg) → (P27 (0 : Int32) (0 : Int32) s_12)) ∧ (¬ x2 < (vcF x1.toNatClampNeg) → (Q (-1 : Int32) s_12))))))))

def wp_X4_nextGain (x1 : Int32) (st : St) (Q : Int32 → St → Prop) : Prop :=
  wp_X4_isRequest x1 st (fun r_2 s_1 => (r_2 = 0 → (Q (-1 : Int32) s_1)) ∧ (¬ r_2 = 0 → (wp_X4_nextGranted 3 1 x1 s_1 (fun r_4 s_3 => Q r_4 s_3))))

def wp_X4_nextLoss (x1 : Int32) (st : St) (Q : Int32 → St → Prop) : Prop :=
  wp_X4_isRequest x1 st (fun r_2 s_1 => (r_2 = 0 → (Q (-1 : Int32) s_1)) ∧ (¬ r_2 = 0 → (wp_X4_nextGranted 1 3 x1 s_1 (fun r_4 s_3 => Q r_4 s_3))))

def wp_X4_transitionCount (x1 : Int32) (x2 : Int32) (st : St) (Q : Int32 → St → Prop) : Prop :=
  ∀ (P21 : Int32 → Int32 → St → Prop), 
  (∀ (x3 : Int32) (x4 : Int32) (st : St), (((1024 : Int32) ≤ x4 → (Q x3 st)) ∧ (¬ (1024 : Int32) ≤ x4 → (wp_X1_decisionOn 1 x4 st (fun r_2 s_1 => (r_2 = x1 → (wp_X1_decisionOn 3 x4 s_1 (fun r_5 s_4 => (r_5 = x2 → (∀ x3_7 : Int32, x3_7 = x3 + (1 : Int32) → ∀ x4_8 : Int32, x4_8 = x4 + (1 : Int32) → P21 x3_7 x4_8 s_4)) ∧ (¬ r_5 = x2 → (∀ x4_6 : Int32, x4_6 = x4 + (1 : Int32) → P21 x3 x4_6 s_4))))) ∧ (¬ r_2 = x1 → (∀ x4_3 : Int32, x4_3 = x4 + (1 : Int32) → P21 x3 x4_3 s_1)))))) → P21 x3 x4 st) →
  wp_X4_isDecision x1 st (fun r_13 s_12 => (r_13 = 0 → (Q (-1 : Int32) s_12)) ∧ (¬ r_13 = 0 → (wp_X4_isDecision x2 s_12 (fun r_15 s_14 => (r_15 = 0 → (Q (-1 : Int32) s_14)) ∧ (¬ r_15 = 0 → (P21 (0 : Int32) (0 : Int32) s_14))))))

def wp_X4_grantedShareBits (x1 : Int32) (st : St) (Q : Int32 → St → Prop) : Prop :=
  wp_X4_isPolicy x1 st (fun r_2 s_1 => (r_2 = 0 → (Q (-1 : Int32) s_1)) ∧ (¬ r_2 = 0 → (wp_X4_policyNumbered x1 s_1 (fun k_4 s_3 => isPol k_4 ∧ (wp_X4_requestsDecided k_4 (0 : Int32) s_3 (fun r_6 s_5 => wp_X4_shareBits r_6 s_5 (fun r_8 s_7 => Q r_8 s_7)))))))

def wp_X4_isRedundant (x1 : Int32) (x2 : Int32) (st : St) (Q : Int32 → St → Prop) : Prop :=
  wp_X4_isRule x1 x2 st (fun r_2 s_1 => (r_2 = 0 → (Q (-1 : Int32) s_1)) ∧ (¬ r_2 = 0 → (wp_X4_policyNumbered x1 s_1 (fun k_4 s_3 => isPol k_4 ∧ (wp_X4_firstChangeWithout k_4 x2 s_3 (fun r_6 s_5 => (r_6 = (-4 : Int32) → (Q (1 : Int32) s_5)) ∧ (¬ r_6 = (-4 : Int32) → (Q (0 : Int32) s_5))))))))

def wp_X4_witness (x1 : Int32) (x2 : Int32) (st : St) (Q : Int32 → St → Prop) : Prop :=
  wp_X4_isRule x1 x2 st (fun r_2 s_1 => (r_2 = 0 → (Q (-1 : Int32) s_1)) ∧ (¬ r_2 = 0 → (wp_X4_policyNumbered x1 s_1 (fun k_4 s_3 => isPol k_4 ∧ (wp_X4_firstChangeWithout k_4 x2 s_3 (fun r_6 s_5 => Q r_6 s_5))))))

def wp_X4_irredundantCore (x1 : Int32) (st : St) (Q : Int32 → St → Prop) : Prop :=
  ∀ (P24 : Nat → Int32 → St → Prop), 
  ∀ (P65 : Nat → Int32 → Int32 → Int32 → St → Prop), 
  (∀ (k2 : Nat) (x3 : Int32) (st : St), (((1024 : Int32) ≤ x3 → (wp_X1_allRules k2 st (fun r_2 s_1 => wp_X4_lowestRedundant k2 r_2 s_1 (fun r_4 s_3 => P65 k2 r_2 r_4 (0 : Int32) s_3)))) ∧ (¬ (1024 : Int32) ≤ x3 → (wp_X1_applying k2 x3 st (fun r_6 s_5 => wp_X3_add r_6 s_5 (fun s_7 => ∀ x3_8 : Int32, x3_8 = x3 + (1 : Int32) → P24 k2 x3_8 s_7))))) → P24 k2 x3 st) →
  (∀ (k2 : Nat) (x3 : Int32) (x4 : Int32) (x5 : Int32) (st : St), (((8 : Int32) ≤ x5 → (Q x3 st)) ∧ (¬ (8 : Int32) ≤ x5 → ((x4 = 0 → (Q x3 st)) ∧ (¬ x4 = 0 → (∀ x3_10 : Int32, x3_10 = x3 &&& (x4 ^^^ (-1 : Int32)) → wp_X4_lowestRedundant k2 x3_10 st (fun r_12 s_11 => ∀ x5_13 : Int32, x5_13 = x5 + (1 : Int32) → P65 k2 x3_10 r_12 x5_13 s_11)))))) → P65 k2 x3 x4 x5 st) →
  wp_X4_isPolicy x1 st (fun r_17 s_16 => (r_17 = 0 → (Q (-1 : Int32) s_16)) ∧ (¬ r_17 = 0 → (wp_X4_policyNumbered x1 s_16 (fun k_19 s_18 => isPol k_19 ∧ (wp_X3_empty s_18 (fun s_20 => P24 k_19 (0 : Int32) s_20))))))

def wp_X4_leastRemoval  (st : St) (Q : Int32 → St → Prop) : Prop :=
  ∀ (P9 : Int32 → St → Prop), 
  ∀ (P65 : Int32 → Int32 → Int32 → Int32 → St → Prop), 
  (∀ (x1 : Int32) (st : St), (((1024 : Int32) ≤ x1 → (wp_X1_allRules 3 st (fun r_2 s_1 => P65 r_2 (-4 : Int32) (9 : Int32) (0 : Int32) s_1))) ∧ (¬ (1024 : Int32) ≤ x1 → (wp_X1_decisionOn 1 x1 st (fun r_4 s_3 => (r_4 = 0 → (∀ x1_5 : Int32, x1_5 = x1 + (1 : Int32) → P9 x1_5 s_3)) ∧ (¬ r_4 = 0 → (wp_X1_applying 3 x1 s_3 (fun r_7 s_6 => wp_X3_add r_7 s_6 (fun s_8 => ∀ x1_9 : Int32, x1_9 = x1 + (1 : Int32) → P9 x1_9 s_8)))))))) → P9 x1 st) →
  (∀ (x1 : Int32) (x2 : Int32) (x3 : Int32) (x4 : Int32) (st : St), ((x1 < x4 → (Q x2 st)) ∧ (¬ x1 < x4 → (wp_J6_bitCount_0f7a4 x4 st (fun r_13 s_12 => (x3 ≤ r_13 → (∀ x4_14 : Int32, x4_14 = x4 + (1 : Int32) → P65 x1 x2 x3 x4_14 s_12)) ∧ (¬ x3 ≤ r_13 → (wp_X3_anyGranted 3 (x1 &&& (x4 ^^^ (-1 : Int32))) s_12 (fun r_16 s_15 => (r_16 = 0 → (wp_J6_bitCount_0f7a4 x4 s_15 (fun r_19 s_18 => ∀ x4_20 : Int32, x4_20 = x4 + (1 : Int32) → P65 x1 x4 r_19 x4_20 s_18))) ∧ (¬ r_16 = 0 → (∀ x4_17 : Int32, x4_17 = x4 + (1 : Int32) → P65 x1 x2 x3 x4_17 s_15))))))))) → P65 x1 x2 x3 x4 st) →
  wp_X3_empty st (fun s_24 => P9 (0 : Int32) s_24)

def wp_X4_historySize  (st : St) (Q : Int32 → St → Prop) : Prop :=
  wp_X0_size st (fun r_2 s_1 => Q r_2 s_1)
