def wp_X0_size  (st : St) (Q : Int32 → St → Prop) : Prop :=
  Q (st 11 2) st

def wp_X0_forgetAll  (st : St) (Q : St → Prop) : Prop :=
  Q (up2 st 11 2 (0 : Int32))

def wp_X0_forgetOldest  (st : St) (Q : St → Prop) : Prop :=
  (¬ (1 : Int32) < 0 ∧ ¬ (0 : Int32) < 0 ∧ ¬ (3 : Int32) < 0 ∧ (1 : Int32).toNatClampNeg + (3 : Int32).toNatClampNeg ≤ 4 ∧ (0 : Int32).toNatClampNeg + (3 : Int32).toNatClampNeg ≤ 4) ∧ ((¬ (27 : Int32) < 0 ∧ ¬ (0 : Int32) < 0 ∧ ¬ (81 : Int32) < 0 ∧ (27 : Int32).toNatClampNeg + (81 : Int32).toNatClampNeg ≤ 108 ∧ (0 : Int32).toNatClampNeg + (81 : Int32).toNatClampNeg ≤ 108) ∧ (Q (up2 (upR (upR st 12 (va_cpy (st 12) (st 12) (1 : Int32).toNatClampNeg (0 : Int32).toNatClampNeg (3 : Int32).toNatClampNeg)) 13 (va_cpy ((upR st 12 (va_cpy (st 12) (st 12) (1 : Int32).toNatClampNeg (0 : Int32).toNatClampNeg (3 : Int32).toNatClampNeg)) 13) ((upR st 12 (va_cpy (st 12) (st 12) (1 : Int32).toNatClampNeg (0 : Int32).toNatClampNeg (3 : Int32).toNatClampNeg)) 13) (27 : Int32).toNatClampNeg (0 : Int32).toNatClampNeg (81 : Int32).toNatClampNeg)) 11 2 (3 : Int32))))

def wp_X0_remember (x1 : Int32) (k2 : Nat) (st : St) (Q : St → Prop) : Prop :=
  ∀ (P12 : St → Prop), 
  (∀  (st : St), (vp_in (st 11 2) 4 ∧ (wp_X1_saveInto k2 (((up2 st 12 (st 11 2).toNatClampNeg x1) 11 2) * (27 : Int32)) (up2 st 12 (st 11 2).toNatClampNeg x1) (fun s_1 => Q (up2 s_1 11 2 ((s_1 11 2) + (1 : Int32)))))) → P12 st) →
  ((st 11 2) < (4 : Int32) → (P12 st)) ∧ (¬ (st 11 2) < (4 : Int32) → (wp_X0_forgetOldest st (fun s_2 => P12 s_2)))

def wp_X0_latestNumber  (st : St) (Q : Int32 → St → Prop) : Prop :=
  ((st 11 2) ≤ 0 → (Q (0 : Int32) st)) ∧ (¬ (st 11 2) ≤ 0 → (vp_in ((st 11 2) - (1 : Int32)) 4 ∧ (Q (st 12 ((st 11 2) - (1 : Int32)).toNatClampNeg) st)))

def wp_X0_recallInto (k1 : Nat) (st : St) (Q : St → Prop) : Prop :=
  ((st 11 2) ≤ 0 → (Q st)) ∧ (¬ (st 11 2) ≤ 0 → (wp_X1_restoreFrom k1 (((up2 st 11 2 ((st 11 2) - (1 : Int32))) 11 2) * (27 : Int32)) (up2 st 11 2 ((st 11 2) - (1 : Int32))) (fun s_1 => Q s_1)))

def wp_X3_empty  (st : St) (Q : St → Prop) : Prop :=
  ∀ (P2 : Int32 → St → Prop), 
  (∀ (x1 : Int32) (st : St), (((256 : Int32) ≤ x1 → (Q (up2 st 14 2 (0 : Int32)))) ∧ (¬ (256 : Int32) ≤ x1 → (vp_in x1 256 ∧ (∀ x1_1 : Int32, x1_1 = x1 + (1 : Int32) → P2 x1_1 (up2 st 16 x1.toNatClampNeg (vp_nar .boolean (0 : Int32))))))) → P2 x1 st) →
  P2 (0 : Int32) st

def wp_X3_add (x1 : Int32) (st : St) (Q : St → Prop) : Prop :=
  (x1 < 0 → (Q st)) ∧ (¬ x1 < 0 → (((256 : Int32) ≤ x1 → (Q st)) ∧ (¬ (256 : Int32) ≤ x1 → (vp_in x1 256 ∧ (((st 16 x1.toNatClampNeg) = 0 → (((st 14 2) < (256 : Int32) → (vp_in x1 256 ∧ (vp_in ((up2 st 16 x1.toNatClampNeg (vp_nar .boolean (1 : Int32))) 14 2) 256 ∧ (Q (up2 (up2 (up2 st 16 x1.toNatClampNeg (vp_nar .boolean (1 : Int32))) 15 ((up2 st 16 x1.toNatClampNeg (vp_nar .boolean (1 : Int32))) 14 2).toNatClampNeg x1) 14 2 (((up2 (up2 st 16 x1.toNatClampNeg (vp_nar .boolean (1 : Int32))) 15 ((up2 st 16 x1.toNatClampNeg (vp_nar .boolean (1 : Int32))) 14 2).toNatClampNeg x1) 14 2) + (1 : Int32))))))) ∧ (¬ (st 14 2) < (256 : Int32) → (Q st)))) ∧ (¬ (st 16 x1.toNatClampNeg) = 0 → (Q st)))))))

def wp_X3_anyGranted (k1 : Nat) (x2 : Int32) (st : St) (Q : Int32 → St → Prop) : Prop :=
  ∀ (P2 : Int32 → St → Prop), 
  (∀ (x3 : Int32) (st : St), (((st 14 2) ≤ x3 → (Q (0 : Int32) st)) ∧ (¬ (st 14 2) ≤ x3 → (vp_in x3 256 ∧ (wp_X1_decisionAmong k1 ((st 15 x3.toNatClampNeg) &&& x2) st (fun r_2 s_1 => (r_2 = 0 → (Q (1 : Int32) s_1)) ∧ (¬ r_2 = 0 → (∀ x3_3 : Int32, x3_3 = x3 + (1 : Int32) → P2 x3_3 s_1))))))) → P2 x3 st) →
  P2 (0 : Int32) st

def wp_X3_sameDecisions (k1 : Nat) (x2 : Int32) (x3 : Int32) (st : St) (Q : Int32 → St → Prop) : Prop :=
  ∀ (P3 : Int32 → St → Prop), 
  (∀ (x4 : Int32) (st : St), (((st 14 2) ≤ x4 → (Q (1 : Int32) st)) ∧ (¬ (st 14 2) ≤ x4 → (vp_in x4 256 ∧ (wp_X1_decisionAmong k1 ((st 15 x4.toNatClampNeg) &&& x2) st (fun r_2 s_1 => vp_in x4 256 ∧ (wp_X1_decisionAmong k1 ((s_1 15 x4.toNatClampNeg) &&& x3) s_1 (fun r_4 s_3 => (r_2 = r_4 → (∀ x4_5 : Int32, x4_5 = x4 + (1 : Int32) → P3 x4_5 s_3)) ∧ (¬ r_2 = r_4 → (Q (0 : Int32) s_3))))))))) → P3 x4 st) →
  P3 (0 : Int32) st

def wp_X2_length  (st : St) (Q : Int32 → St → Prop) : Prop :=
  Q (st 5 4) st

def wp_X2_oldDraft  (st : St) (Q : Nat → St → Prop) : Prop :=
  Q 7 st

def wp_X2_newDraft  (st : St) (Q : Nat → St → Prop) : Prop :=
  Q 9 st

def wp_X2_add (x1 : Int32) (st : St) (Q : Int32 → St → Prop) : Prop :=
  ((st 5 4) < 0 → (Q (0 : Int32) st)) ∧ (¬ (st 5 4) < 0 → (((st 5 4) < (240 : Int32) → (vp_in (st 5 4) 240 ∧ (Q (1 : Int32) (up2 (up2 st 6 (st 5 4).toNatClampNeg (vp_nar .char x1)) 5 4 (((up2 st 6 (st 5 4).toNatClampNeg (vp_nar .char x1)) 5 4) + (1 : Int32)))))) ∧ (¬ (st 5 4) < (240 : Int32) → (Q (0 : Int32) st))))

def wp_X2_empty  (st : St) (Q : St → Prop) : Prop :=
  Q (up2 st 5 4 (0 : Int32))

def wp_X2_accept (i1 : Nat) (st : St) (Q : Int32 → St → Prop) : Prop :=
  ∀ (P20 : Int32 → St → Prop), 
  (∀ (x2 : Int32) (st : St), (wp_J0_length_8abf5 i1 st (fun r_2 s_1 => (r_2 ≤ x2 → (wp_J0_length_8abf5 i1 s_1 (fun r_4 s_3 => Q (1 : Int32) (up2 s_3 5 5 ((s_1 5 5) + r_4))))) ∧ (¬ r_2 ≤ x2 → (vp_in ((s_1 5 5) + x2) 240 ∧ (wp_J0_charAt_5068e i1 x2 s_1 (fun r_6 s_5 => ((s_1 6 ((s_1 5 5) + x2).toNatClampNeg) = r_6 → (∀ x2_7 : Int32, x2_7 = x2 + (1 : Int32) → P20 x2_7 s_5)) ∧ (¬ (s_1 6 ((s_1 5 5) + x2).toNatClampNeg) = r_6 → (Q (0 : Int32) s_5)))))))) → P20 x2 st) →
  wp_J0_length_8abf5 i1 st (fun r_11 s_10 => (r_11 ≤ ((s_10 5 4) - (s_10 5 5)) → (P20 (0 : Int32) s_10)) ∧ (¬ r_11 ≤ ((s_10 5 4) - (s_10 5 5)) → (Q (0 : Int32) s_10)))

def wp_X2_acceptCharacter (x1 : Int32) (st : St) (Q : Int32 → St → Prop) : Prop :=
  ((st 5 4) ≤ (st 5 5) → (Q (0 : Int32) st)) ∧ (¬ (st 5 4) ≤ (st 5 5) → (vp_in (st 5 5) 240 ∧ (((st 6 (st 5 5).toNatClampNeg) = x1 → (Q (1 : Int32) (up2 st 5 5 ((st 5 5) + (1 : Int32))))) ∧ (¬ (st 6 (st 5 5).toNatClampNeg) = x1 → (Q (0 : Int32) st)))))

def wp_X2_readAttribute  (st : St) (Q : Int32 → St → Prop) : Prop :=
  ∀ (P2 : Int32 → St → Prop), 
  (∀ (x1 : Int32) (st : St), (((4 : Int32) ≤ x1 → (Q (-4 : Int32) st)) ∧ (¬ (4 : Int32) ≤ x1 → (wp_J0_charAt_5068e 11 x1 st (fun r_2 s_1 => wp_X2_acceptCharacter r_2 s_1 (fun r_4 s_3 => (r_4 = 0 → (∀ x1_5 : Int32, x1_5 = x1 + (1 : Int32) → P2 x1_5 s_3)) ∧ (¬ r_4 = 0 → (Q x1 s_3))))))) → P2 x1 st) →
  P2 (0 : Int32) st

def wp_X2_readValues (x1 : Int32) (st : St) (Q : Int32 → St → Prop) : Prop :=
  ∀ (P4 : Int32 → Int32 → St → Prop), 
  (∀ (x2 : Int32) (x3 : Int32) (st : St), ((x1 ≤ x3 → (Q x2 st)) ∧ (¬ x1 ≤ x3 → (((st 5 4) ≤ (st 5 5) → (Q x2 st)) ∧ (¬ (st 5 4) ≤ (st 5 5) → (vp_in (st 5 5) 240 ∧ (∀ x4_1 : Int32, x4_1 = (st 6 (st 5 5).toNatClampNeg) - (48 : Int32) → (x4_1 < 0 → (Q x2 st)) ∧ (¬ x4_1 < 0 → ((x1 ≤ x4_1 → (Q x2 st)) ∧ (¬ x1 ≤ x4_1 → ((((x2 >>> (x4_1 &&& (31 : Int32))) &&& (1 : Int32)) = 0 → (∀ x2_2 : Int32, x2_2 = x2 ||| ((1 : Int32) <<< (x4_1 &&& (31 : Int32))) → ∀ x3_3 : Int32, x3_3 = x3 + (1 : Int32) → P4 x2_2 x3_3 (up2 st 5 5 ((st 5 5) + (1 : Int32))))) ∧ (¬ ((x2 >>> (x4_1 &&& (31 : Int32))) &&& (1 : Int32)) = 0 → (Q x2 st)))))))))))) → P4 x2 x3 st) →
  P4 (0 : Int32) (0 : Int32) st

def wp_X2_readAlgorithm  (st : St) (Q : Int32 → St → Prop) : Prop :=
  ∀ (P70 : Int32 → St → Prop), 
  (∀ (x1 : Int32) (st : St), ((x1 = (-4 : Int32) → (Q (0 : Int32) st)) ∧ (¬ x1 = (-4 : Int32) → (wp_X1_use (selOf (st 5 3)) x1 st (fun s_1 => Q (1 : Int32) s_1)))) → P70 x1 st) →
  wp_X2_accept 4 st (fun r_4 s_3 => (r_4 = 0 → (wp_X2_accept 5 s_3 (fun r_6 s_5 => (r_6 = 0 → (wp_X2_accept 6 s_5 (fun r_8 s_7 => (r_8 = 0 → (wp_X2_accept 7 s_7 (fun r_10 s_9 => (r_10 = 0 → (wp_X2_accept 8 s_9 (fun r_12 s_11 => (r_12 = 0 → (P70 (-4 : Int32) s_11)) ∧ (¬ r_12 = 0 → (P70 (4 : Int32) s_11))))) ∧ (¬ r_10 = 0 → (P70 (3 : Int32) s_9))))) ∧ (¬ r_8 = 0 → (P70 (2 : Int32) s_7))))) ∧ (¬ r_6 = 0 → (P70 (1 : Int32) s_5))))) ∧ (¬ r_4 = 0 → (P70 (0 : Int32) s_3)))

def wp_X2_readRule (x1 : Int32) (st : St) (Q : Int32 → St → Prop) : Prop :=
  ∀ (P30 : Int32 → Int32 → Int32 → St → Prop), 
  (∀ (x2 : Int32) (x3 : Int32) (x4 : Int32) (st : St), (((4 : Int32) ≤ x4 → (Q (1 : Int32) st)) ∧ (¬ (4 : Int32) ≤ x4 → (wp_X2_accept 10 st (fun r_2 s_1 => (r_2 = 0 → (Q (1 : Int32) s_1)) ∧ (¬ r_2 = 0 → (wp_X2_readAttribute s_1 (fun r_4 s_3 => (r_4 < 0 → (Q (0 : Int32) s_3)) ∧ (¬ r_4 < 0 → ((((x3 >>> (r_4 &&& (31 : Int32))) &&& (1 : Int32)) = 0 → (∀ x3_5 : Int32, x3_5 = x3 ||| ((1 : Int32) <<< (r_4 &&& (31 : Int32))) → vp_in r_4 4 ∧ (wp_X2_readValues (vcF r_4.toNatClampNeg) s_3 (fun r_7 s_6 => (r_7 = 0 → (Q (0 : Int32) s_6)) ∧ (¬ r_7 = 0 → (wp_X1_restrict (selOf (s_6 5 3)) x2 r_4 r_7 s_6 (fun s_8 => ∀ x4_9 : Int32, x4_9 = x4 + (1 : Int32) → P30 x2 x3_5 x4_9 s_8))))))) ∧ (¬ ((x3 >>> (r_4 &&& (31 : Int32))) &&& (1 : Int32)) = 0 → (Q (0 : Int32) s_3))))))))))) → P30 x2 x3 x4 st) →
  wp_X1_size (selOf (st 5 3)) st (fun r_16 s_15 => (r_16 < (8 : Int32) → (wp_X1_insertRule (selOf (s_15 5 3)) r_16 x1 s_15 (fun s_17 => P30 r_16 (0 : Int32) (0 : Int32) s_17))) ∧ (¬ r_16 < (8 : Int32) → (Q (0 : Int32) s_15)))

def wp_X2_readStatement  (st : St) (Q : Int32 → St → Prop) : Prop :=
  wp_X2_accept 1 st (fun r_2 s_1 => (r_2 = 0 → (wp_X2_accept 2 s_1 (fun r_4 s_3 => (r_4 = 0 → (wp_X2_accept 3 s_3 (fun r_6 s_5 => (r_6 = 0 → (wp_X2_accept 9 s_5 (fun r_8 s_7 => (r_8 = 0 → (wp_X2_accept 12 s_7 (fun r_10 s_9 => (r_10 = 0 → (Q (0 : Int32) s_9)) ∧ (¬ r_10 = 0 → (wp_X2_readRule (1 : Int32) s_9 (fun r_12 s_11 => (r_12 = 0 → (Q (0 : Int32) s_11)) ∧ (¬ r_12 = 0 → (Q (1 : Int32) s_11)))))))) ∧ (¬ r_8 = 0 → (wp_X2_readRule (0 : Int32) s_7 (fun r_16 s_15 => (r_16 = 0 ∨ r_16 = 1) ∧ Q r_16 s_15)))))) ∧ (¬ r_6 = 0 → (wp_X2_readAlgorithm s_5 (fun r_19 s_18 => (r_19 = 0 ∨ r_19 = 1) ∧ Q r_19 s_18)))))) ∧ (¬ r_4 = 0 → (Q (1 : Int32) (up2 s_3 5 3 (1 : Int32))))))) ∧ (¬ r_2 = 0 → (Q (1 : Int32) (up2 s_1 5 3 (0 : Int32)))))

def wp_X2_firstMalformed  (st : St) (Q : Int32 → St → Prop) : Prop :=
  ∀ (P29 : Int32 → St → Prop), 
  (∀ (x1 : Int32) (st : St), (((240 : Int32) ≤ x1 → (Q (-4 : Int32) st)) ∧ (¬ (240 : Int32) ≤ x1 → (((st 5 4) ≤ (st 5 5) → (Q (-4 : Int32) st)) ∧ (¬ (st 5 4) ≤ (st 5 5) → (∀ x2_1 : Int32, x2_1 = st 5 5 → wp_X2_readStatement st (fun r_3 s_2 => (r_3 = 0 → (Q x2_1 s_2)) ∧ (¬ r_3 = 0 → (wp_X2_accept 13 s_2 (fun r_5 s_4 => (r_5 = 0 → (Q x2_1 s_4)) ∧ (¬ r_5 = 0 → (∀ x1_6 : Int32, x1_6 = x1 + (1 : Int32) → P29 x1_6 s_4))))))))))) → P29 x1 st) →
  wp_X1_empty 7 st (fun s_11 => wp_X1_empty 9 s_11 (fun s_12 => P29 (0 : Int32) (up2 (up2 s_12 5 3 (0 : Int32)) 5 5 (0 : Int32))))
