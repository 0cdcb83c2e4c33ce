def wp_J6_bitCount_0f7a4 (x0 : Int32) (st : St) (Q : Int32 → St → Prop) : Prop :=
  ∀ x0_1 : Int32, x0_1 = x0 - ((ushr x0 (1 : Int32)) &&& (1431655765 : Int32)) → ∀ x0_2 : Int32, x0_2 = (x0_1 &&& (858993459 : Int32)) + ((ushr x0_1 (2 : Int32)) &&& (858993459 : Int32)) → ∀ x0_3 : Int32, x0_3 = (x0_2 + (ushr x0_2 (4 : Int32))) &&& (252645135 : Int32) → ∀ x0_4 : Int32, x0_4 = x0_3 + (ushr x0_3 (8 : Int32)) → ∀ x0_5 : Int32, x0_5 = x0_4 + (ushr x0_4 (16 : Int32)) → Q (x0_5 &&& (63 : Int32)) st

def wp_J6_lowestOneBit_0f7a4 (x0 : Int32) (st : St) (Q : Int32 → St → Prop) : Prop :=
  Q (x0 &&& (-x0)) st

def wp_J6_numberOfLeadingZeros_0f7a4 (x0 : Int32) (st : St) (Q : Int32 → St → Prop) : Prop :=
  ∀ (P33 : Int32 → Int32 → St → Prop), 
  ∀ (P48 : Int32 → Int32 → St → Prop), 
  ∀ (P61 : Int32 → Int32 → St → Prop), 
  ∀ (P73 : Int32 → Int32 → St → Prop), 
  (∀ (x0 : Int32) (x1 : Int32) (st : St), ((x0 < (256 : Int32) → (P48 x0 x1 st)) ∧ (¬ x0 < (256 : Int32) → (∀ x1_1 : Int32, x1_1 = x1 + (-8 : Int32) → ∀ x0_2 : Int32, x0_2 = ushr x0 (8 : Int32) → P48 x0_2 x1_1 st))) → P33 x0 x1 st) →
  (∀ (x0 : Int32) (x1 : Int32) (st : St), ((x0 < (16 : Int32) → (P61 x0 x1 st)) ∧ (¬ x0 < (16 : Int32) → (∀ x1_4 : Int32, x1_4 = x1 + (-4 : Int32) → ∀ x0_5 : Int32, x0_5 = ushr x0 (4 : Int32) → P61 x0_5 x1_4 st))) → P48 x0 x1 st) →
  (∀ (x0 : Int32) (x1 : Int32) (st : St), ((x0 < (4 : Int32) → (P73 x0 x1 st)) ∧ (¬ x0 < (4 : Int32) → (∀ x1_7 : Int32, x1_7 = x1 + (-2 : Int32) → ∀ x0_8 : Int32, x0_8 = ushr x0 (2 : Int32) → P73 x0_8 x1_7 st))) → P61 x0 x1 st) →
  (∀ (x0 : Int32) (x1 : Int32) (st : St), (Q (x1 - (ushr x0 (1 : Int32))) st) → P73 x0 x1 st) →
  (0 < x0 → ((x0 < (65536 : Int32) → (P33 x0 (31 : Int32) st)) ∧ (¬ x0 < (65536 : Int32) → (∀ x1_10 : Int32, x1_10 = (31 : Int32) + (-16 : Int32) → ∀ x0_11 : Int32, x0_11 = ushr x0 (16 : Int32) → P33 x0_11 x1_10 st)))) ∧ (¬ 0 < x0 → ((x0 = 0 → (Q (32 : Int32) st)) ∧ (¬ x0 = 0 → (Q (0 : Int32) st))))

def wp_J7_fill_53178 (k0 : Nat) (x1 : Int32) (st : St) (Q : St → Prop) : Prop :=
  ∀ (P5 : Int32 → Int32 → St → Prop), 
  (∀ (x2 : Int32) (x3 : Int32) (st : St), ((x3 ≤ x2 → (Q st)) ∧ (¬ x3 ≤ x2 → (vp_in x2 25 ∧ (∀ x2_1 : Int32, x2_1 = x2 + (1 : Int32) → P5 x2_1 x3 (up2 st (k0 + 1) x2.toNatClampNeg x1))))) → P5 x2 x3 st) →
  P5 (0 : Int32) (25 : Int32) st

def wp_X1_size (k0 : Nat) (st : St) (Q : Int32 → St → Prop) : Prop :=
  Q (st k0 1) st

def wp_X1_algorithm (k0 : Nat) (st : St) (Q : Int32 → St → Prop) : Prop :=
  Q (st k0 2) st

def wp_X1_use (k0 : Nat) (x1 : Int32) (st : St) (Q : St → Prop) : Prop :=
  Q (up2 st k0 2 x1)

def wp_X1_empty (k0 : Nat) (st : St) (Q : St → Prop) : Prop :=
  wp_J7_fill_53178 k0 (0 : Int32) st (fun s_1 => Q (up2 (up2 s_1 k0 1 (0 : Int32)) k0 2 (0 : Int32)))

def wp_X1_copyFrom (k0 : Nat) (k1 : Nat) (st : St) (Q : St → Prop) : Prop :=
  (¬ (0 : Int32) < 0 ∧ ¬ (0 : Int32) < 0 ∧ ¬ (25 : Int32) < 0 ∧ (0 : Int32).toNatClampNeg + (25 : Int32).toNatClampNeg ≤ 25 ∧ (0 : Int32).toNatClampNeg + (25 : Int32).toNatClampNeg ≤ 25) ∧ (Q (up2 (up2 (upR st (k0 + 1) (va_cpy (st (k1 + 1)) (st (k0 + 1)) (0 : Int32).toNatClampNeg (0 : Int32).toNatClampNeg (25 : Int32).toNatClampNeg)) k0 1 ((upR st (k0 + 1) (va_cpy (st (k1 + 1)) (st (k0 + 1)) (0 : Int32).toNatClampNeg (0 : Int32).toNatClampNeg (25 : Int32).toNatClampNeg)) k1 1)) k0 2 ((up2 (upR st (k0 + 1) (va_cpy (st (k1 + 1)) (st (k0 + 1)) (0 : Int32).toNatClampNeg (0 : Int32).toNatClampNeg (25 : Int32).toNatClampNeg)) k0 1 ((upR st (k0 + 1) (va_cpy (st (k1 + 1)) (st (k0 + 1)) (0 : Int32).toNatClampNeg (0 : Int32).toNatClampNeg (25 : Int32).toNatClampNeg)) k1 1)) k1 2)))

def wp_X1_saveInto (k0 : Nat) (x2 : Int32) (st : St) (Q : St → Prop) : Prop :=
  (x2 < 0 → (Q st)) ∧ (¬ x2 < 0 → ((x2 ≤ ((108 : Int32) - (27 : Int32)) → ((¬ (0 : Int32) < 0 ∧ ¬ x2 < 0 ∧ ¬ (25 : Int32) < 0 ∧ (0 : Int32).toNatClampNeg + (25 : Int32).toNatClampNeg ≤ 25 ∧ x2.toNatClampNeg + (25 : Int32).toNatClampNeg ≤ 108) ∧ (vp_in (x2 + (25 : Int32)) 108 ∧ (vp_in ((x2 + (25 : Int32)) + (1 : Int32)) 108 ∧ (Q (up2 (up2 (upR st 13 (va_cpy (st (k0 + 1)) (st 13) (0 : Int32).toNatClampNeg x2.toNatClampNeg (25 : Int32).toNatClampNeg)) 13 (x2 + (25 : Int32)).toNatClampNeg ((upR st 13 (va_cpy (st (k0 + 1)) (st 13) (0 : Int32).toNatClampNeg x2.toNatClampNeg (25 : Int32).toNatClampNeg)) k0 1)) 13 ((x2 + (25 : Int32)) + (1 : Int32)).toNatClampNeg ((up2 (upR st 13 (va_cpy (st (k0 + 1)) (st 13) (0 : Int32).toNatClampNeg x2.toNatClampNeg (25 : Int32).toNatClampNeg)) 13 (x2 + (25 : Int32)).toNatClampNeg ((upR st 13 (va_cpy (st (k0 + 1)) (st 13) (0 : Int32).toNatClampNeg x2.toNatClampNeg (25 : Int32).toNatClampNeg)) k0 1)) k0 2))))))) ∧ (¬ x2 ≤ ((108 : Int32) - (27 : Int32)) → (Q st))))

def wp_X1_restoreFrom (k0 : Nat) (x2 : Int32) (st : St) (Q : St → Prop) : Prop :=
  (x2 < 0 → (Q st)) ∧ (¬ x2 < 0 → ((x2 ≤ ((108 : Int32) - (27 : Int32)) → ((¬ x2 < 0 ∧ ¬ (0 : Int32) < 0 ∧ ¬ (25 : Int32) < 0 ∧ x2.toNatClampNeg + (25 : Int32).toNatClampNeg ≤ 108 ∧ (0 : Int32).toNatClampNeg + (25 : Int32).toNatClampNeg ≤ 25) ∧ (vp_in (x2 + (25 : Int32)) 108 ∧ (vp_in ((x2 + (25 : Int32)) + (1 : Int32)) 108 ∧ (Q (up2 (up2 (upR st (k0 + 1) (va_cpy (st 13) (st (k0 + 1)) x2.toNatClampNeg (0 : Int32).toNatClampNeg (25 : Int32).toNatClampNeg)) k0 1 ((upR st (k0 + 1) (va_cpy (st 13) (st (k0 + 1)) x2.toNatClampNeg (0 : Int32).toNatClampNeg (25 : Int32).toNatClampNeg)) 13 (x2 + (25 : Int32)).toNatClampNeg)) k0 2 ((up2 (upR st (k0 + 1) (va_cpy (st 13) (st (k0 + 1)) x2.toNatClampNeg (0 : Int32).toNatClampNeg (25 : Int32).toNatClampNeg)) k0 1 ((upR st (k0 + 1) (va_cpy (st 13) (st (k0 + 1)) x2.toNatClampNeg (0 : Int32).toNatClampNeg (25 : Int32).toNatClampNeg)) 13 (x2 + (25 : Int32)).toNatClampNeg)) 13 ((x2 + (25 : Int32)) + (1 : Int32)).toNatClampNeg))))))) ∧ (¬ x2 ≤ ((108 : Int32) - (27 : Int32)) → (Q st))))

def wp_X1_withBitInserted (x0 : Int32) (x1 : Int32) (x2 : Int32) (st : St) (Q : Int32 → St → Prop) : Prop :=
  ∀ x3_1 : Int32, x3_1 = ((1 : Int32) <<< (x1 &&& (31 : Int32))) - (1 : Int32) → Q (((x0 &&& x3_1) ||| (x2 <<< (x1 &&& (31 : Int32)))) ||| ((x0 &&& (x3_1 ^^^ (-1 : Int32))) <<< ((1 : Int32) &&& (31 : Int32)))) st

def wp_X1_withBitDropped (x0 : Int32) (x1 : Int32) (st : St) (Q : Int32 → St → Prop) : Prop :=
  ∀ x2_1 : Int32, x2_1 = ((1 : Int32) <<< (x1 &&& (31 : Int32))) - (1 : Int32) → Q ((x0 &&& x2_1) ||| ((x0 >>> ((1 : Int32) &&& (31 : Int32))) &&& (x2_1 ^^^ (-1 : Int32)))) st

def wp_X1_majority (x0 : Int32) (x1 : Int32) (st : St) (Q : Int32 → St → Prop) : Prop :=
  (x0 = x1 → (Q (3 : Int32) st)) ∧ (¬ x0 = x1 → ((x0 ≤ x1 → (Q (1 : Int32) st)) ∧ (¬ x0 ≤ x1 → (Q (0 : Int32) st))))

def wp_X1_insertRule (k0 : Nat) (x1 : Int32) (x2 : Int32) (st : St) (Q : St → Prop) : Prop :=
  ∀ (P2 : Int32 → St → Prop), 
  ∀ (P55 : Int32 → Int32 → Int32 → Int32 → St → Prop), 
  (∀ (x3 : Int32) (st : St), (((24 : Int32) ≤ x3 → (vp_in (24 : Int32) 25 ∧ ((x2 = (1 : Int32) → (P55 (24 : Int32) (st (k0 + 1) (24 : Int32).toNatClampNeg) x1 (1 : Int32) st)) ∧ (¬ x2 = (1 : Int32) → (P55 (24 : Int32) (st (k0 + 1) (24 : Int32).toNatClampNeg) x1 (0 : Int32) st))))) ∧ (¬ (24 : Int32) ≤ x3 → (vp_in x3 25 ∧ (wp_X1_withBitInserted (st (k0 + 1) x3.toNatClampNeg) x1 (1 : Int32) st (fun r_3 s_2 => vp_in x3 25 ∧ (∀ x3_4 : Int32, x3_4 = x3 + (1 : Int32) → P2 x3_4 (up2 s_2 (k0 + 1) x3.toNatClampNeg r_3))))))) → P2 x3 st) →
  (∀ (y1 : Int32) (y2 : Int32) (y3 : Int32) (y4 : Int32) (st : St), (wp_X1_withBitInserted y2 y3 y4 st (fun r_7 s_6 => vp_in y1 25 ∧ (Q (up2 (up2 s_6 (k0 + 1) y1.toNatClampNeg r_7) k0 1 (((up2 s_6 (k0 + 1) y1.toNatClampNeg r_7) k0 1) + (1 : Int32)))))) → P55 y1 y2 y3 y4 st) →
  P2 (0 : Int32) st

def wp_X1_dropRule (k0 : Nat) (x1 : Int32) (st : St) (Q : St → Prop) : Prop :=
  ∀ (P2 : Int32 → St → Prop), 
  (∀ (x2 : Int32) (st : St), (((25 : Int32) ≤ x2 → (Q (up2 st k0 1 ((st k0 1) - (1 : Int32))))) ∧ (¬ (25 : Int32) ≤ x2 → (vp_in x2 25 ∧ (wp_X1_withBitDropped (st (k0 + 1) x2.toNatClampNeg) x1 st (fun r_2 s_1 => vp_in x2 25 ∧ (∀ x2_3 : Int32, x2_3 = x2 + (1 : Int32) → P2 x2_3 (up2 s_1 (k0 + 1) x2.toNatClampNeg r_2))))))) → P2 x2 st) →
  P2 (0 : Int32) st

def wp_X1_shiftRule (k0 : Nat) (x1 : Int32) (x2 : Int32) (st : St) (Q : St → Prop) : Prop :=
  ∀ (P2 : Int32 → St → Prop), 
  (∀ (x3 : Int32) (st : St), (((25 : Int32) ≤ x3 → (Q st)) ∧ (¬ (25 : Int32) ≤ x3 → (vp_in x3 25 ∧ (∀ x4_1 : Int32, x4_1 = ((st (k0 + 1) x3.toNatClampNeg) >>> (x1 &&& (31 : Int32))) &&& (1 : Int32) → vp_in x3 25 ∧ (wp_X1_withBitDropped (st (k0 + 1) x3.toNatClampNeg) x1 st (fun r_3 s_2 => wp_X1_withBitInserted r_3 x2 x4_1 s_2 (fun r_5 s_4 => vp_in x3 25 ∧ (∀ x3_6 : Int32, x3_6 = x3 + (1 : Int32) → P2 x3_6 (up2 s_4 (k0 + 1) x3.toNatClampNeg r_5))))))))) → P2 x3 st) →
  P2 (0 : Int32) st

def wp_X1_restrict (k0 : Nat) (x1 : Int32) (x2 : Int32) (x3 : Int32) (st : St) (Q : St → Prop) : Prop :=
  ∀ (P10 : Int32 → Int32 → St → Prop), 
  (∀ (x4 : Int32) (x5 : Int32) (st : St), (vp_in x2 4 ∧ (((vcF x2.toNatClampNeg) ≤ x5 → (Q st)) ∧ (¬ (vcF x2.toNatClampNeg) ≤ x5 → (∀ x6_1 : Int32, x6_1 = (x3 >>> (x5 &&& (31 : Int32))) &&& (1 : Int32) → vp_in (x4 + x5) 25 ∧ (vp_in (x4 + x5) 25 ∧ (∀ x5_2 : Int32, x5_2 = x5 + (1 : Int32) → P10 x4 x5_2 (up2 st (k0 + 1) (x4 + x5).toNatClampNeg (((st (k0 + 1) (x4 + x5).toNatClampNeg) &&& (((1 : Int32) <<< (x1 &&& (31 : Int32))) ^^^ (-1 : Int32))) ||| (x6_1 <<< (x1 &&& (31 : Int32))))))))))) → P10 x4 x5 st) →
  vp_in x2 4 ∧ (∀ x4_4 : Int32, x4_4 = frF x2.toNatClampNeg → P10 x4_4 (0 : Int32) st)

def wp_X1_valuesAt (k0 : Nat) (x1 : Int32) (x2 : Int32) (st : St) (Q : Int32 → St → Prop) : Prop :=
  ∀ (P12 : Int32 → Int32 → Int32 → St → Prop), 
  (∀ (x3 : Int32) (x4 : Int32) (x5 : Int32) (st : St), (vp_in x2 4 ∧ (((vcF x2.toNatClampNeg) ≤ x5 → (Q x4 st)) ∧ (¬ (vcF x2.toNatClampNeg) ≤ x5 → (vp_in (x3 + x5) 25 ∧ (∀ x4_1 : Int32, x4_1 = x4 ||| ((((st (k0 + 1) (x3 + x5).toNatClampNeg) >>> (x1 &&& (31 : Int32))) &&& (1 : Int32)) <<< (x5 &&& (31 : Int32))) → ∀ x5_2 : Int32, x5_2 = x5 + (1 : Int32) → P12 x3 x4_1 x5_2 st))))) → P12 x3 x4 x5 st) →
  vp_in x2 4 ∧ (∀ x3_4 : Int32, x3_4 = frF x2.toNatClampNeg → P12 x3_4 (0 : Int32) (0 : Int32) st)

def wp_X1_turnEffect (k0 : Nat) (x1 : Int32) (st : St) (Q : St → Prop) : Prop :=
  vp_in (24 : Int32) 25 ∧ (vp_in (24 : Int32) 25 ∧ (Q (up2 st (k0 + 1) (24 : Int32).toNatClampNeg ((st (k0 + 1) (24 : Int32).toNatClampNeg) ^^^ ((1 : Int32) <<< (x1 &&& (31 : Int32)))))))

def wp_X1_effectAt (k0 : Nat) (x1 : Int32) (st : St) (Q : Int32 → St → Prop) : Prop :=
  vp_in (24 : Int32) 25 ∧ (((((st (k0 + 1) (24 : Int32).toNatClampNeg) >>> (x1 &&& (31 : Int32))) &&& (1 : Int32)) = 0 → (Q (0 : Int32) st)) ∧ (¬ (((st (k0 + 1) (24 : Int32).toNatClampNeg) >>> (x1 &&& (31 : Int32))) &&& (1 : Int32)) = 0 → (Q (1 : Int32) st)))

def wp_X1_allRules (k0 : Nat) (st : St) (Q : Int32 → St → Prop) : Prop :=
  Q (((1 : Int32) <<< ((st k0 1) &&& (31 : Int32))) - (1 : Int32)) st

def wp_X1_applying (k0 : Nat) (x1 : Int32) (st : St) (Q : Int32 → St → Prop) : Prop :=
  vp_in ((0 : Int32) + ((x1 >>> ((7 : Int32) &&& (31 : Int32))) &&& (7 : Int32))) 25 ∧ (vp_in ((8 : Int32) + ((x1 >>> ((5 : Int32) &&& (31 : Int32))) &&& (3 : Int32))) 25 ∧ (vp_in ((12 : Int32) + ((x1 >>> ((2 : Int32) &&& (31 : Int32))) &&& (7 : Int32))) 25 ∧ (vp_in ((20 : Int32) + (x1 &&& (3 : Int32))) 25 ∧ (Q ((((st (k0 + 1) ((0 : Int32) + ((x1 >>> ((7 : Int32) &&& (31 : Int32))) &&& (7 : Int32))).toNatClampNeg) &&& (st (k0 + 1) ((8 : Int32) + ((x1 >>> ((5 : Int32) &&& (31 : Int32))) &&& (3 : Int32))).toNatClampNeg)) &&& (st (k0 + 1) ((12 : Int32) + ((x1 >>> ((2 : Int32) &&& (31 : Int32))) &&& (7 : Int32))).toNatClampNeg)) &&& (st (k0 + 1) ((20 : Int32) + (x1 &&& (3 : Int32))).toNatClampNeg)) st))))

def wp_X1_decisionAmong (k0 : Nat) (x1 : Int32) (st : St) (Q : Int32 → St → Prop) : Prop :=
  (x1 = 0 → (Q (2 : Int32) st)) ∧ (¬ x1 = 0 → (vp_in (24 : Int32) 25 ∧ (∀ x2_1 : Int32, x2_1 = x1 &&& (st (k0 + 1) (24 : Int32).toNatClampNeg) → ((st k0 2) = (0 : Int32) → (wp_J6_lowestOneBit_0f7a4 x1 st (fun r_4 s_3 => ((x2_1 &&& r_4) = 0 → (Q (0 : Int32) s_3)) ∧ (¬ (x2_1 &&& r_4) = 0 → (Q (1 : Int32) s_3))))) ∧ ((st k0 2) = (1 : Int32) → ((x2_1 = 0 → (Q (0 : Int32) st)) ∧ (¬ x2_1 = 0 → (Q (1 : Int32) st)))) ∧ ((st k0 2) = (2 : Int32) → ((x2_1 = x1 → (Q (1 : Int32) st)) ∧ (¬ x2_1 = x1 → (Q (0 : Int32) st)))) ∧ ((st k0 2) = (3 : Int32) → (wp_J6_bitCount_0f7a4 x1 st (fun r_9 s_8 => (r_9 ≤ (1 : Int32) → ((x2_1 = 0 → (Q (0 : Int32) s_8)) ∧ (¬ x2_1 = 0 → (Q (1 : Int32) s_8)))) ∧ (¬ r_9 ≤ (1 : Int32) → (Q (3 : Int32) s_8))))) ∧ ((¬ (st k0 2) = (0 : Int32) ∧ ¬ (st k0 2) = (1 : Int32) ∧ ¬ (st k0 2) = (2 : Int32) ∧ ¬ (st k0 2) = (3 : Int32)) → (wp_J6_bitCount_0f7a4 (x1 &&& (x2_1 ^^^ (-1 : Int32))) st (fun r_13 s_12 => wp_J6_bitCount_0f7a4 x2_1 s_12 (fun r_15 s_14 => wp_X1_majority r_13 r_15 s_14 (fun r_17 s_16 => Q r_17 s_16))))))))

def wp_X1_decisionOn (k0 : Nat) (x1 : Int32) (st : St) (Q : Int32 → St → Prop) : Prop :=
  wp_X1_applying k0 x1 st (fun r_2 s_1 => wp_X1_decisionAmong k0 r_2 s_1 (fun r_4 s_3 => Q r_4 s_3))
