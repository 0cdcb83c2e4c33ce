def wp_X5_sets (x1 : Int32) (x2 : Int32) (x3 : Int32) (x4 : Int32) (x5 : Int32) (x6 : Int32) (x7 : Int32) (st : St) (Q : St → Prop) : Prop :=
  ∀ x8_1 : Int32, x8_1 = (((42 : Int32) * x1) + (2 : Int32)) + ((5 : Int32) * x2) → vp_in x8_1 84 ∧ (vp_in (x8_1 + (1 : Int32)) 84 ∧ (vp_in (x8_1 + (2 : Int32)) 84 ∧ (vp_in (x8_1 + (3 : Int32)) 84 ∧ (vp_in (x8_1 + (4 : Int32)) 84 ∧ (Q (up2 (up2 (up2 (up2 (up2 st 20 x8_1.toNatClampNeg x3) 20 (x8_1 + (1 : Int32)).toNatClampNeg x4) 20 (x8_1 + (2 : Int32)).toNatClampNeg x5) 20 (x8_1 + (3 : Int32)).toNatClampNeg x6) 20 (x8_1 + (4 : Int32)).toNatClampNeg x7))))))

def wp_X5_in (x0 : Int32) (x1 : Int32) (x2 : Int32) (st : St) (Q : Int32 → St → Prop) : Prop :=
  (x0 < x1 → (Q (0 : Int32) st)) ∧ (¬ x0 < x1 → ((x2 < x0 → (Q (0 : Int32) st)) ∧ (¬ x2 < x0 → (Q (1 : Int32) st))))

def wp_X5_has (x0 : Int32) (x1 : Int32) (st : St) (Q : Int32 → St → Prop) : Prop :=
  (((x0 >>> (x1 &&& (31 : Int32))) &&& (1 : Int32)) = (1 : Int32) → (Q (1 : Int32) st)) ∧ (¬ ((x0 >>> (x1 &&& (31 : Int32))) &&& (1 : Int32)) = (1 : Int32) → (Q (0 : Int32) st))

def wp_X5_valuesOf (x0 : Int32) (st : St) (Q : Int32 → St → Prop) : Prop :=
  (x0 = 0 → (Q (8 : Int32) st)) ∧ (¬ x0 = 0 → ((x0 = (2 : Int32) → (Q (8 : Int32) st)) ∧ (¬ x0 = (2 : Int32) → (Q (4 : Int32) st))))

def wp_X5_append (x1 : Int32) (st : St) (Q : Int32 → St → Prop) : Prop :=
  wp_X5_in x1 (32 : Int32) (126 : Int32) st (fun r_2 s_1 => (r_2 = 0 → (Q (-1 : Int32) s_1)) ∧ (¬ r_2 = 0 → (((s_1 17 0) = (240 : Int32) → (Q (-2 : Int32) s_1)) ∧ (¬ (s_1 17 0) = (240 : Int32) → (vp_in (s_1 17 0) 240 ∧ (Q ((up2 (up2 s_1 18 (s_1 17 0).toNatClampNeg x1) 17 0 (((up2 s_1 18 (s_1 17 0).toNatClampNeg x1) 17 0) + (1 : Int32))) 17 0) (up2 (up2 s_1 18 (s_1 17 0).toNatClampNeg x1) 17 0 (((up2 s_1 18 (s_1 17 0).toNatClampNeg x1) 17 0) + (1 : Int32)))))))))

def wp_X5_clearText  (st : St) (Q : Int32 → St → Prop) : Prop :=
  ∀ x1_1 : Int32, x1_1 = st 17 0 → Q x1_1 (up2 st 17 0 (0 : Int32))

def wp_X5_next  (st : St) (Q : Int32 → St → Prop) : Prop :=
  ((st 17 0) ≤ (st 17 8) → (Q (0 : Int32) st)) ∧ (¬ (st 17 0) ≤ (st 17 8) → (vp_in (st 17 8) 240 ∧ (Q (st 18 (st 17 8).toNatClampNeg) st)))

def wp_X5_is (x1 : Int32) (x2 : Int32) (st : St) (Q : Int32 → St → Prop) : Prop :=
  ((st 17 0) ≤ ((st 17 8) + x1) → (Q (0 : Int32) st)) ∧ (¬ (st 17 0) ≤ ((st 17 8) + x1) → (vp_in ((st 17 8) + x1) 240 ∧ (((st 18 ((st 17 8) + x1).toNatClampNeg) = x2 → (Q (1 : Int32) st)) ∧ (¬ (st 18 ((st 17 8) + x1).toNatClampNeg) = x2 → (Q (0 : Int32) st)))))

def wp_X5_are (x1 : Int32) (x2 : Int32) (x3 : Int32) (x4 : Int32) (x5 : Int32) (st : St) (Q : Int32 → St → Prop) : Prop :=
  wp_X5_is x1 x2 st (fun r_2 s_1 => (r_2 = 0 → (Q (0 : Int32) s_1)) ∧ (¬ r_2 = 0 → (wp_X5_is (x1 + (1 : Int32)) x3 s_1 (fun r_4 s_3 => (r_4 = 0 → (Q (0 : Int32) s_3)) ∧ (¬ r_4 = 0 → (wp_X5_is (x1 + (2 : Int32)) x4 s_3 (fun r_6 s_5 => (r_6 = 0 → (Q (0 : Int32) s_5)) ∧ (¬ r_6 = 0 → (wp_X5_is (x1 + (3 : Int32)) x5 s_5 (fun r_8 s_7 => (r_8 = 0 → (Q (0 : Int32) s_7)) ∧ (¬ r_8 = 0 → (Q (1 : Int32) s_7))))))))))))

def wp_X5_word (x1 : Int32) (x2 : Int32) (x3 : Int32) (x4 : Int32) (x5 : Int32) (x6 : Int32) (x7 : Int32) (st : St) (Q : Int32 → St → Prop) : Prop :=
  ∀ (P31 : St → Prop), 
  ∀ (P32 : Int32 → St → Prop), 
  ∀ (P55 : St → Prop), 
  ∀ (P71 : St → Prop), 
  ∀ (P92 : St → Prop), 
  ∀ (P93 : Int32 → St → Prop), 
  (∀  (st : St), (P32 (0 : Int32) st) → P31 st) →
  (∀ (y0 : Int32) (st : St), ((y0 = 0 → (P92 st)) ∧ (¬ y0 = 0 → ((x7 < (4 : Int32) → (P55 st)) ∧ (¬ x7 < (4 : Int32) → (wp_X5_is (3 : Int32) x4 st (fun r_2 s_1 => (r_2 = 0 → (P92 s_1)) ∧ (¬ r_2 = 0 → (P55 s_1)))))))) → P32 y0 st) →
  (∀  (st : St), ((x7 < (5 : Int32) → (P71 st)) ∧ (¬ x7 < (5 : Int32) → (wp_X5_is (4 : Int32) x5 st (fun r_7 s_6 => (r_7 = 0 → (P92 s_6)) ∧ (¬ r_7 = 0 → (P71 s_6)))))) → P55 st) →
  (∀  (st : St), ((x7 < (6 : Int32) → (P93 (1 : Int32) st)) ∧ (¬ x7 < (6 : Int32) → (wp_X5_is (5 : Int32) x6 st (fun r_11 s_10 => (r_11 = 0 → (P92 s_10)) ∧ (¬ r_11 = 0 → (P93 (1 : Int32) s_10)))))) → P71 st) →
  (∀  (st : St), (P93 (0 : Int32) st) → P92 st) →
  (∀ (y0 : Int32) (st : St), ((y0 = 0 → ((y0 = 0 ∨ y0 = 1) ∧ Q y0 (up2 st 17 8 ((st 17 8) + (0 : Int32))))) ∧ (¬ y0 = 0 → ((y0 = 0 ∨ y0 = 1) ∧ Q y0 (up2 st 17 8 ((st 17 8) + x7))))) → P93 y0 st) →
  wp_X5_is (0 : Int32) x1 st (fun r_16 s_15 => (r_16 = 0 → (P31 s_15)) ∧ (¬ r_16 = 0 → (wp_X5_is (1 : Int32) x2 s_15 (fun r_18 s_17 => (r_18 = 0 → (P31 s_17)) ∧ (¬ r_18 = 0 → (wp_X5_is (2 : Int32) x3 s_17 (fun r_20 s_19 => (r_20 = 0 → (P31 s_19)) ∧ (¬ r_20 = 0 → (P32 (1 : Int32) s_19)))))))))

def wp_X5_clears  (st : St) (Q : St → Prop) : Prop :=
  ∀ (P2 : Int32 → St → Prop), 
  (∀ (x1 : Int32) (st : St), (((84 : Int32) ≤ x1 → (Q st)) ∧ (¬ (84 : Int32) ≤ x1 → (vp_in x1 84 ∧ (∀ x1_1 : Int32, x1_1 = x1 + (1 : Int32) → P2 x1_1 (up2 st 20 x1.toNatClampNeg (0 : Int32)))))) → P2 x1 st) →
  P2 (0 : Int32) st

def wp_X5_takes  (st : St) (Q : St → Prop) : Prop :=
  ∀ (P2 : Int32 → St → Prop), 
  (∀ (x1 : Int32) (st : St), (((84 : Int32) ≤ x1 → (Q (up2 st 17 5 (0 : Int32)))) ∧ (¬ (84 : Int32) ≤ x1 → (vp_in x1 84 ∧ (vp_in x1 84 ∧ (∀ x1_1 : Int32, x1_1 = x1 + (1 : Int32) → P2 x1_1 (up2 st 19 x1.toNatClampNeg (st 20 x1.toNatClampNeg))))))) → P2 x1 st) →
  P2 (0 : Int32) st

def wp_X5_attributeOf (x0 : Int32) (st : St) (Q : Int32 → St → Prop) : Prop :=
  (x0 = (115 : Int32) → (Q (0 : Int32) st)) ∧ (¬ x0 = (115 : Int32) → ((x0 = (97 : Int32) → (Q (1 : Int32) st)) ∧ (¬ x0 = (97 : Int32) → ((x0 = (114 : Int32) → (Q (2 : Int32) st)) ∧ (¬ x0 = (114 : Int32) → ((x0 = (108 : Int32) → (Q (3 : Int32) st)) ∧ (¬ x0 = (108 : Int32) → (Q (-4 : Int32) st))))))))

def wp_X5_constraints (x1 : Int32) (st : St) (Q : Int32 → St → Prop) : Prop :=
  ∀ (P2 : Int32 → St → Prop), 
  ∀ (P64 : Int32 → Int32 → Int32 → St → Prop), 
  ∀ (P127 : Int32 → Int32 → Int32 → St → Prop), 
  (∀ (x2 : Int32) (st : St), (wp_X5_next st (fun r_2 s_1 => (r_2 = (58 : Int32) → (wp_X5_next (up2 s_1 17 8 ((s_1 17 8) + (1 : Int32))) (fun r_4 s_3 => wp_X5_attributeOf r_4 s_3 (fun r_6 s_5 => (r_6 = (-4 : Int32) → (Q (0 : Int32) (up2 s_5 17 8 ((s_5 17 8) + (1 : Int32))))) ∧ (¬ r_6 = (-4 : Int32) → (wp_X5_has x2 r_6 (up2 s_5 17 8 ((s_5 17 8) + (1 : Int32))) (fun r_8 s_7 => (r_8 = 0 → (∀ x2_9 : Int32, x2_9 = x2 ||| ((1 : Int32) <<< (r_6 &&& (31 : Int32))) → P64 x2_9 r_6 (0 : Int32) s_7)) ∧ (¬ r_8 = 0 → (Q (0 : Int32) s_7))))))))) ∧ (¬ r_2 = (58 : Int32) → (Q (1 : Int32) s_1)))) → P2 x2 st) →
  (∀ (x2 : Int32) (x3 : Int32) (x4 : Int32) (st : St), (wp_X5_next st (fun r_14 s_13 => wp_X5_valuesOf x3 s_13 (fun r_16 s_15 => wp_X5_in r_14 (48 : Int32) (((48 : Int32) + r_16) - (1 : Int32)) s_15 (fun r_18 s_17 => (r_18 = 0 → (P127 x2 x3 x4 s_17)) ∧ (¬ r_18 = 0 → (wp_X5_next s_17 (fun r_20 s_19 => wp_X5_has x4 (r_20 - (48 : Int32)) s_19 (fun r_22 s_21 => (r_22 = 0 → (wp_X5_next s_21 (fun r_24 s_23 => ∀ x4_25 : Int32, x4_25 = x4 ||| ((1 : Int32) <<< ((r_24 - (48 : Int32)) &&& (31 : Int32))) → P64 x2 x3 x4_25 (up2 s_23 17 8 ((s_23 17 8) + (1 : Int32)))))) ∧ (¬ r_22 = 0 → (P127 x2 x3 x4 s_21)))))))))) → P64 x2 x3 x4 st) →
  (∀ (x2 : Int32) (x3 : Int32) (x4 : Int32) (st : St), ((x4 = 0 → (Q (0 : Int32) st)) ∧ (¬ x4 = 0 → (vp_in ((x1 + (1 : Int32)) + x3) 84 ∧ (P2 x2 (up2 st 20 ((x1 + (1 : Int32)) + x3).toNatClampNeg x4))))) → P127 x2 x3 x4 st) →
  P2 (0 : Int32) st

def wp_X5_rule (x1 : Int32) (x2 : Int32) (st : St) (Q : Int32 → St → Prop) : Prop :=
  ∀ (P41 : Int32 → Int32 → St → Prop), 
  (∀ (x4 : Int32) (x5 : Int32) (st : St), (((4 : Int32) ≤ x5 → (vp_in ((42 : Int32) * x1) 84 ∧ (vp_in ((42 : Int32) * x1) 84 ∧ (wp_X5_constraints x4 (up2 st 20 ((42 : Int32) * x1).toNatClampNeg ((st 20 ((42 : Int32) * x1).toNatClampNeg) + (1 : Int32))) (fun r_2 s_1 => (r_2 = 0 ∨ r_2 = 1) ∧ Q r_2 s_1))))) ∧ (¬ (4 : Int32) ≤ x5 → (wp_X5_valuesOf x5 st (fun r_4 s_3 => vp_in ((x4 + (1 : Int32)) + x5) 84 ∧ (∀ x5_5 : Int32, x5_5 = x5 + (1 : Int32) → P41 x4 x5_5 (up2 s_3 20 ((x4 + (1 : Int32)) + x5).toNatClampNeg (((1 : Int32) <<< (r_4 &&& (31 : Int32))) - (1 : Int32)))))))) → P41 x4 x5 st) →
  vp_in ((42 : Int32) * x1) 84 ∧ (∀ x3_7 : Int32, x3_7 = st 20 ((42 : Int32) * x1).toNatClampNeg → (x3_7 = (8 : Int32) → (Q (0 : Int32) st)) ∧ (¬ x3_7 = (8 : Int32) → (∀ x4_8 : Int32, x4_8 = (((42 : Int32) * x1) + (2 : Int32)) + ((5 : Int32) * x3_7) → vp_in x4_8 84 ∧ (P41 x4_8 (0 : Int32) (up2 st 20 x4_8.toNatClampNeg x2)))))

def wp_X5_algorithm  (st : St) (Q : Int32 → St → Prop) : Prop :=
  ∀ (P67 : St → Prop), 
  ∀ (P117 : St → Prop), 
  ∀ (P161 : St → Prop), 
  (∀  (st : St), (wp_X5_are (6 : Int32) (111 : Int32) (118 : Int32) (101 : Int32) (114 : Int32) st (fun r_2 s_1 => (r_2 = 0 → (P117 s_1)) ∧ (¬ r_2 = 0 → (wp_X5_word (112 : Int32) (101 : Int32) (114 : Int32) (109 : Int32) (105 : Int32) (116 : Int32) (6 : Int32) s_1 (fun r_4 s_3 => (r_4 = 0 → (P117 s_3)) ∧ (¬ r_4 = 0 → (Q (2 : Int32) (up2 s_3 17 8 ((s_3 17 8) + (4 : Int32)))))))))) → P67 st) →
  (∀  (st : St), (wp_X5_is (6 : Int32) (101 : Int32) st (fun r_8 s_7 => (r_8 = 0 → (P161 s_7)) ∧ (¬ r_8 = 0 → (wp_X5_word (111 : Int32) (110 : Int32) (108 : Int32) (121 : Int32) (111 : Int32) (110 : Int32) (6 : Int32) s_7 (fun r_10 s_9 => (r_10 = 0 → (P161 s_9)) ∧ (¬ r_10 = 0 → (Q (3 : Int32) (up2 s_9 17 8 ((s_9 17 8) + (1 : Int32)))))))))) → P117 st) →
  (∀  (st : St), (wp_X5_is (6 : Int32) (116 : Int32) st (fun r_14 s_13 => (r_14 = 0 → (Q (-4 : Int32) s_13)) ∧ (¬ r_14 = 0 → (wp_X5_is (7 : Int32) (121 : Int32) s_13 (fun r_16 s_15 => (r_16 = 0 → (Q (-4 : Int32) s_15)) ∧ (¬ r_16 = 0 → (wp_X5_word (109 : Int32) (97 : Int32) (106 : Int32) (111 : Int32) (114 : Int32) (105 : Int32) (6 : Int32) s_15 (fun r_18 s_17 => (r_18 = 0 → (Q (-4 : Int32) s_17)) ∧ (¬ r_18 = 0 → (Q (4 : Int32) (up2 s_17 17 8 ((s_17 17 8) + (2 : Int32))))))))))))) → P161 st) →
  wp_X5_word (102 : Int32) (105 : Int32) (114 : Int32) (115 : Int32) (116 : Int32) (0 : Int32) (5 : Int32) st (fun r_23 s_22 => (r_23 = 0 → (wp_X5_are (4 : Int32) (111 : Int32) (118 : Int32) (101 : Int32) (114 : Int32) s_22 (fun r_25 s_24 => (r_25 = 0 → (P67 s_24)) ∧ (¬ r_25 = 0 → (wp_X5_word (100 : Int32) (101 : Int32) (110 : Int32) (121 : Int32) (0 : Int32) (0 : Int32) (4 : Int32) s_24 (fun r_27 s_26 => (r_27 = 0 → (P67 s_26)) ∧ (¬ r_27 = 0 → (Q (1 : Int32) (up2 s_26 17 8 ((s_26 17 8) + (4 : Int32))))))))))) ∧ (¬ r_23 = 0 → (Q (0 : Int32) s_22)))

def wp_X5_statement  (st : St) (Q : Int32 → St → Prop) : Prop :=
  wp_X5_word (111 : Int32) (108 : Int32) (100 : Int32) (0 : Int32) (0 : Int32) (0 : Int32) (3 : Int32) st (fun r_2 s_1 => (r_2 = 0 → (wp_X5_word (110 : Int32) (101 : Int32) (119 : Int32) (0 : Int32) (0 : Int32) (0 : Int32) (3 : Int32) s_1 (fun r_4 s_3 => (r_4 = 0 → (wp_X5_word (112 : Int32) (101 : Int32) (114 : Int32) (109 : Int32) (105 : Int32) (116 : Int32) (6 : Int32) s_3 (fun r_6 s_5 => (r_6 = 0 → (wp_X5_word (100 : Int32) (101 : Int32) (110 : Int32) (121 : Int32) (0 : Int32) (0 : Int32) (4 : Int32) s_5 (fun r_8 s_7 => (r_8 = 0 → (wp_X5_word (117 : Int32) (115 : Int32) (101 : Int32) (0 : Int32) (0 : Int32) (0 : Int32) (3 : Int32) s_7 (fun r_10 s_9 => (r_10 = 0 → (Q (0 : Int32) s_9)) ∧ (¬ r_10 = 0 → (wp_X5_algorithm s_9 (fun r_12 s_11 => vp_in (((42 : Int32) * (s_11 17 9)) + (1 : Int32)) 84 ∧ ((r_12 = (-4 : Int32) → (Q (0 : Int32) (up2 s_11 20 (((42 : Int32) * (s_11 17 9)) + (1 : Int32)).toNatClampNeg r_12))) ∧ (¬ r_12 = (-4 : Int32) → (Q (1 : Int32) (up2 s_11 20 (((42 : Int32) * (s_11 17 9)) + (1 : Int32)).toNatClampNeg r_12)))))))))) ∧ (¬ r_8 = 0 → (wp_X5_rule (s_7 17 9) (1 : Int32) s_7 (fun r_16 s_15 => (r_16 = 0 ∨ r_16 = 1) ∧ Q r_16 s_15)))))) ∧ (¬ r_6 = 0 → (wp_X5_rule (s_5 17 9) (0 : Int32) s_5 (fun r_19 s_18 => (r_19 = 0 ∨ r_19 = 1) ∧ Q r_19 s_18)))))) ∧ (¬ r_4 = 0 → (Q (1 : Int32) (up2 s_3 17 9 (1 : Int32))))))) ∧ (¬ r_2 = 0 → (Q (1 : Int32) (up2 s_1 17 9 (0 : Int32)))))

def wp_X5_syntaxError  (st : St) (Q : Int32 → St → Prop) : Prop :=
  ∀ (P14 : St → Prop), 
  (∀  (st : St), (((st 17 0) ≤ (st 17 8) → (Q (-4 : Int32) st)) ∧ (¬ (st 17 0) ≤ (st 17 8) → (∀ x1_1 : Int32, x1_1 = st 17 8 → wp_X5_statement st (fun r_3 s_2 => (r_3 = 0 → (Q x1_1 s_2)) ∧ (¬ r_3 = 0 → (wp_X5_next s_2 (fun r_5 s_4 => (r_5 = (59 : Int32) → (P14 (up2 s_4 17 8 ((s_4 17 8) + (1 : Int32))))) ∧ (¬ r_5 = (59 : Int32) → (Q x1_1 s_4))))))))) → P14 st) →
  wp_X5_clears st (fun s_9 => P14 (up2 (up2 s_9 17 8 (0 : Int32)) 17 9 (0 : Int32)))

def wp_X5_load  (st : St) (Q : Int32 → St → Prop) : Prop :=
  wp_X5_syntaxError st (fun r_2 s_1 => (r_2 = (-4 : Int32) → (wp_X5_takes s_1 (fun s_3 => vp_in (0 : Int32) 84 ∧ (vp_in (42 : Int32) 84 ∧ (Q ((s_3 19 (0 : Int32).toNatClampNeg) + (s_3 19 (42 : Int32).toNatClampNeg)) s_3))))) ∧ (¬ r_2 = (-4 : Int32) → (Q (-3 : Int32) s_1)))

def wp_X5_edit  (st : St) (Q : St → Prop) : Prop :=
  ∀ (P10 : Int32 → St → Prop), 
  ∀ (P50 : Int32 → St → Prop), 
  (∀ (x1 : Int32) (st : St), (((252 : Int32) ≤ x1 → (P50 (0 : Int32) (up2 st 17 5 ((st 17 5) - (1 : Int32))))) ∧ (¬ (252 : Int32) ≤ x1 → (vp_in (x1 + (84 : Int32)) 336 ∧ (vp_in x1 336 ∧ (∀ x1_1 : Int32, x1_1 = x1 + (1 : Int32) → P10 x1_1 (up2 st 21 x1.toNatClampNeg (st 21 (x1 + (84 : Int32)).toNatClampNeg))))))) → P10 x1 st) →
  (∀ (x1 : Int32) (st : St), (((84 : Int32) ≤ x1 → (Q (up2 st 17 5 ((st 17 5) + (1 : Int32))))) ∧ (¬ (84 : Int32) ≤ x1 → (vp_in x1 84 ∧ (vp_in (((84 : Int32) * (st 17 5)) + x1) 336 ∧ (∀ x1_3 : Int32, x1_3 = x1 + (1 : Int32) → P50 x1_3 (up2 st 21 (((84 : Int32) * (st 17 5)) + x1).toNatClampNeg (st 19 x1.toNatClampNeg))))))) → P50 x1 st) →
  ((st 17 5) = (4 : Int32) → (P10 (0 : Int32) st)) ∧ (¬ (st 17 5) = (4 : Int32) → (P50 (0 : Int32) st))

def wp_X5_undo  (st : St) (Q : Int32 → St → Prop) : Prop :=
  ∀ (P22 : Int32 → St → Prop), 
  (∀ (x1 : Int32) (st : St), (((84 : Int32) ≤ x1 → (Q (st 17 5) st)) ∧ (¬ (84 : Int32) ≤ x1 → (vp_in (((84 : Int32) * (st 17 5)) + x1) 336 ∧ (vp_in x1 84 ∧ (∀ x1_1 : Int32, x1_1 = x1 + (1 : Int32) → P22 x1_1 (up2 st 19 x1.toNatClampNeg (st 21 (((84 : Int32) * (st 17 5)) + x1).toNatClampNeg))))))) → P22 x1 st) →
  ((st 17 5) = 0 → (Q (-3 : Int32) st)) ∧ (¬ (st 17 5) = 0 → (P22 (0 : Int32) (up2 st 17 5 ((st 17 5) - (1 : Int32)))))

def wp_X5_isPolicy (x0 : Int32) (st : St) (Q : Int32 → St → Prop) : Prop :=
  wp_X5_in x0 (0 : Int32) (1 : Int32) st (fun r_2 s_1 => (r_2 = 0 ∨ r_2 = 1) ∧ Q r_2 s_1)

def wp_X5_isRule (x1 : Int32) (x2 : Int32) (st : St) (Q : Int32 → St → Prop) : Prop :=
  wp_X5_isPolicy x1 st (fun r_2 s_1 => (r_2 = 0 → (Q (0 : Int32) s_1)) ∧ (¬ r_2 = 0 → (vp_in ((42 : Int32) * x1) 84 ∧ (wp_X5_in x2 (0 : Int32) ((s_1 19 ((42 : Int32) * x1).toNatClampNeg) - (1 : Int32)) s_1 (fun r_4 s_3 => (r_4 = 0 → (Q (0 : Int32) s_3)) ∧ (¬ r_4 = 0 → (Q (1 : Int32) s_3)))))))

def wp_X5_copies (x1 : Int32) (x2 : Int32) (x3 : Int32) (st : St) (Q : St → Prop) : Prop :=
  ∀ (P11 : Int32 → Int32 → St → Prop), 
  (∀ (x4 : Int32) (x5 : Int32) (st : St), (((5 : Int32) ≤ x5 → (Q st)) ∧ (¬ (5 : Int32) ≤ x5 → (vp_in ((x4 + ((5 : Int32) * x2)) + x5) 84 ∧ (vp_in ((x4 + ((5 : Int32) * x3)) + x5) 84 ∧ (∀ x5_1 : Int32, x5_1 = x5 + (1 : Int32) → P11 x4 x5_1 (up2 st 19 ((x4 + ((5 : Int32) * x3)) + x5).toNatClampNeg (st 19 ((x4 + ((5 : Int32) * x2)) + x5).toNatClampNeg))))))) → P11 x4 x5 st) →
  ∀ x4_3 : Int32, x4_3 = ((42 : Int32) * x1) + (2 : Int32) → P11 x4_3 (0 : Int32) st

def wp_X5_addRule (x1 : Int32) (x2 : Int32) (x3 : Int32) (st : St) (Q : Int32 → St → Prop) : Prop :=
  ∀ (P67 : Int32 → St → Prop), 
  ∀ (P113 : Int32 → Int32 → St → Prop), 
  (∀ (x4 : Int32) (st : St), ((x4 ≤ x2 → (∀ x4_1 : Int32, x4_1 = (((42 : Int32) * x1) + (2 : Int32)) + ((5 : Int32) * x2) → vp_in x4_1 84 ∧ (P113 x4_1 (0 : Int32) (up2 st 19 x4_1.toNatClampNeg x3)))) ∧ (¬ x4 ≤ x2 → (wp_X5_copies x1 (x4 - (1 : Int32)) x4 st (fun s_2 => ∀ x4_3 : Int32, x4_3 = x4 + (-1 : Int32) → P67 x4_3 s_2)))) → P67 x4 st) →
  (∀ (x4 : Int32) (x5 : Int32) (st : St), (((4 : Int32) ≤ x5 → (vp_in ((42 : Int32) * x1) 84 ∧ (vp_in ((42 : Int32) * x1) 84 ∧ (vp_in ((42 : Int32) * x1) 84 ∧ (Q ((up2 st 19 ((42 : Int32) * x1).toNatClampNeg ((st 19 ((42 : Int32) * x1).toNatClampNeg) + (1 : Int32))) 19 ((42 : Int32) * x1).toNatClampNeg) (up2 st 19 ((42 : Int32) * x1).toNatClampNeg ((st 19 ((42 : Int32) * x1).toNatClampNeg) + (1 : Int32)))))))) ∧ (¬ (4 : Int32) ≤ x5 → (wp_X5_valuesOf x5 st (fun r_6 s_5 => vp_in ((x4 + (1 : Int32)) + x5) 84 ∧ (∀ x5_7 : Int32, x5_7 = x5 + (1 : Int32) → P113 x4 x5_7 (up2 s_5 19 ((x4 + (1 : Int32)) + x5).toNatClampNeg (((1 : Int32) <<< (r_6 &&& (31 : Int32))) - (1 : Int32)))))))) → P113 x4 x5 st) →
  wp_X5_isPolicy x1 st (fun r_10 s_9 => (r_10 = 0 → (Q (-1 : Int32) s_9)) ∧ (¬ r_10 = 0 → (vp_in ((42 : Int32) * x1) 84 ∧ (wp_X5_in x2 (0 : Int32) (s_9 19 ((42 : Int32) * x1).toNatClampNeg) s_9 (fun r_12 s_11 => (r_12 = 0 → (Q (-1 : Int32) s_11)) ∧ (¬ r_12 = 0 → (wp_X5_in x3 (0 : Int32) (1 : Int32) s_11 (fun r_14 s_13 => (r_14 = 0 → (Q (-1 : Int32) s_13)) ∧ (¬ r_14 = 0 → (vp_in ((42 : Int32) * x1) 84 ∧ (((s_13 19 ((42 : Int32) * x1).toNatClampNeg) = (8 : Int32) → (Q (-2 : Int32) s_13)) ∧ (¬ (s_13 19 ((42 : Int32) * x1).toNatClampNeg) = (8 : Int32) → (wp_X5_edit s_13 (fun s_15 => vp_in ((42 : Int32) * x1) 84 ∧ (∀ x4_16 : Int32, x4_16 = s_15 19 ((42 : Int32) * x1).toNatClampNeg → P67 x4_16 s_15)))))))))))))))

def wp_X5_removes (x1 : Int32) (x2 : Int32) (st : St) (Q : St → Prop) : Prop :=
  ∀ (P15 : Int32 → St → Prop), 
  (∀ (x3 : Int32) (st : St), (vp_in ((42 : Int32) * x1) 84 ∧ (((st 19 ((42 : Int32) * x1).toNatClampNeg) ≤ x3 → (Q st)) ∧ (¬ (st 19 ((42 : Int32) * x1).toNatClampNeg) ≤ x3 → (wp_X5_copies x1 (x3 + (1 : Int32)) x3 st (fun s_1 => ∀ x3_2 : Int32, x3_2 = x3 + (1 : Int32) → P15 x3_2 s_1))))) → P15 x3 st) →
  vp_in ((42 : Int32) * x1) 84 ∧ (vp_in ((42 : Int32) * x1) 84 ∧ (P15 x2 (up2 st 19 ((42 : Int32) * x1).toNatClampNeg ((st 19 ((42 : Int32) * x1).toNatClampNeg) - (1 : Int32)))))

def wp_X5_removeRule (x1 : Int32) (x2 : Int32) (st : St) (Q : Int32 → St → Prop) : Prop :=
  wp_X5_isRule x1 x2 st (fun r_2 s_1 => (r_2 = 0 → (Q (-1 : Int32) s_1)) ∧ (¬ r_2 = 0 → (wp_X5_edit s_1 (fun s_3 => wp_X5_removes x1 x2 s_3 (fun s_4 => vp_in ((42 : Int32) * x1) 84 ∧ (Q (s_4 19 ((42 : Int32) * x1).toNatClampNeg) s_4))))))

def wp_X5_moveRule (x1 : Int32) (x2 : Int32) (x3 : Int32) (st : St) (Q : Int32 → St → Prop) : Prop :=
  ∀ (P43 : Int32 → Int32 → St → Prop), 
  ∀ (P91 : Int32 → Int32 → Int32 → St → Prop), 
  ∀ (P122 : Int32 → Int32 → St → Prop), 
  (∀ (x4 : Int32) (x5 : Int32) (st : St), (((5 : Int32) ≤ x5 → ((x3 ≤ x2 → (P91 x4 (-1 : Int32) x2 st)) ∧ (¬ x3 ≤ x2 → (P91 x4 (1 : Int32) x2 st)))) ∧ (¬ (5 : Int32) ≤ x5 → (vp_in ((x4 + ((5 : Int32) * x2)) + x5) 84 ∧ (vp_in x5 5 ∧ (∀ x5_2 : Int32, x5_2 = x5 + (1 : Int32) → P43 x4 x5_2 (up2 st 24 x5.toNatClampNeg (st 19 ((x4 + ((5 : Int32) * x2)) + x5).toNatClampNeg))))))) → P43 x4 x5 st) →
  (∀ (x4 : Int32) (x5 : Int32) (x6 : Int32) (st : St), ((x6 = x3 → (P122 x4 (0 : Int32) st)) ∧ (¬ x6 = x3 → (wp_X5_copies x1 (x6 + x5) x6 st (fun s_4 => ∀ x6_5 : Int32, x6_5 = x6 + x5 → P91 x4 x5 x6_5 s_4)))) → P91 x4 x5 x6 st) →
  (∀ (x4 : Int32) (x6 : Int32) (st : St), (((5 : Int32) ≤ x6 → (vp_in (0 : Int32) 5 ∧ (Q (st 24 (0 : Int32).toNatClampNeg) st))) ∧ (¬ (5 : Int32) ≤ x6 → (vp_in x6 5 ∧ (vp_in ((x4 + ((5 : Int32) * x3)) + x6) 84 ∧ (∀ x6_7 : Int32, x6_7 = x6 + (1 : Int32) → P122 x4 x6_7 (up2 st 19 ((x4 + ((5 : Int32) * x3)) + x6).toNatClampNeg (st 24 x6.toNatClampNeg))))))) → P122 x4 x6 st) →
  wp_X5_isRule x1 x2 st (fun r_10 s_9 => (r_10 = 0 → (Q (-1 : Int32) s_9)) ∧ (¬ r_10 = 0 → (wp_X5_isRule x1 x3 s_9 (fun r_12 s_11 => (r_12 = 0 → (Q (-1 : Int32) s_11)) ∧ (¬ r_12 = 0 → ((x2 = x3 → (Q (-3 : Int32) s_11)) ∧ (¬ x2 = x3 → (wp_X5_edit s_11 (fun s_13 => ∀ x4_14 : Int32, x4_14 = ((42 : Int32) * x1) + (2 : Int32) → P43 x4_14 (0 : Int32) s_13)))))))))

def wp_X5_setAlgorithm (x1 : Int32) (x2 : Int32) (st : St) (Q : Int32 → St → Prop) : Prop :=
  wp_X5_isPolicy x1 st (fun r_2 s_1 => (r_2 = 0 → (Q (-1 : Int32) s_1)) ∧ (¬ r_2 = 0 → (wp_X5_in x2 (0 : Int32) (4 : Int32) s_1 (fun r_4 s_3 => (r_4 = 0 → (Q (-1 : Int32) s_3)) ∧ (¬ r_4 = 0 → (vp_in (((42 : Int32) * x1) + (1 : Int32)) 84 ∧ (∀ x3_5 : Int32, x3_5 = s_3 19 (((42 : Int32) * x1) + (1 : Int32)).toNatClampNeg → (x3_5 = x2 → (Q (-3 : Int32) s_3)) ∧ (¬ x3_5 = x2 → (wp_X5_edit s_3 (fun s_6 => vp_in (((42 : Int32) * x1) + (1 : Int32)) 84 ∧ (Q x3_5 (up2 s_6 19 (((42 : Int32) * x1) + (1 : Int32)).toNatClampNeg x2))))))))))))

def wp_X5_setTarget (x1 : Int32) (x2 : Int32) (x3 : Int32) (x4 : Int32) (st : St) (Q : Int32 → St → Prop) : Prop :=
  wp_X5_isRule x1 x2 st (fun r_2 s_1 => (r_2 = 0 → (Q (-1 : Int32) s_1)) ∧ (¬ r_2 = 0 → (wp_X5_in x3 (0 : Int32) (3 : Int32) s_1 (fun r_4 s_3 => (r_4 = 0 → (Q (-1 : Int32) s_3)) ∧ (¬ r_4 = 0 → (wp_X5_valuesOf x3 s_3 (fun r_6 s_5 => wp_X5_in x4 (1 : Int32) (((1 : Int32) <<< (r_6 &&& (31 : Int32))) - (1 : Int32)) s_5 (fun r_8 s_7 => (r_8 = 0 → (Q (-1 : Int32) s_7)) ∧ (¬ r_8 = 0 → (∀ x5_9 : Int32, x5_9 = (((((42 : Int32) * x1) + (2 : Int32)) + ((5 : Int32) * x2)) + (1 : Int32)) + x3 → vp_in x5_9 84 ∧ (∀ x6_10 : Int32, x6_10 = s_7 19 x5_9.toNatClampNeg → (x6_10 = x4 → (Q (-3 : Int32) s_7)) ∧ (¬ x6_10 = x4 → (wp_X5_edit s_7 (fun s_11 => vp_in x5_9 84 ∧ (Q x6_10 (up2 s_11 19 x5_9.toNatClampNeg x4))))))))))))))))

def wp_X5_flipEffect (x1 : Int32) (x2 : Int32) (st : St) (Q : Int32 → St → Prop) : Prop :=
  wp_X5_isRule x1 x2 st (fun r_2 s_1 => (r_2 = 0 → (Q (-1 : Int32) s_1)) ∧ (¬ r_2 = 0 → (wp_X5_edit s_1 (fun s_3 => ∀ x3_4 : Int32, x3_4 = (((42 : Int32) * x1) + (2 : Int32)) + ((5 : Int32) * x2) → vp_in x3_4 84 ∧ (vp_in x3_4 84 ∧ (vp_in x3_4 84 ∧ (Q ((up2 s_3 19 x3_4.toNatClampNeg ((1 : Int32) - (s_3 19 x3_4.toNatClampNeg))) 19 x3_4.toNatClampNeg) (up2 s_3 19 x3_4.toNatClampNeg ((1 : Int32) - (s_3 19 x3_4.toNatClampNeg))))))))))

def wp_X5_copyOldToNew  (st : St) (Q : Int32 → St → Prop) : Prop :=
  ∀ (P6 : Int32 → St → Prop), 
  (∀ (x1 : Int32) (st : St), (((42 : Int32) ≤ x1 → (vp_in (0 : Int32) 84 ∧ (Q (st 19 (0 : Int32).toNatClampNeg) st))) ∧ (¬ (42 : Int32) ≤ x1 → (vp_in x1 84 ∧ (vp_in ((42 : Int32) + x1) 84 ∧ (∀ x1_1 : Int32, x1_1 = x1 + (1 : Int32) → P6 x1_1 (up2 st 19 ((42 : Int32) + x1).toNatClampNeg (st 19 x1.toNatClampNeg))))))) → P6 x1 st) →
  wp_X5_edit st (fun s_3 => P6 (0 : Int32) s_3)

def wp_X5_ruleCount (x1 : Int32) (st : St) (Q : Int32 → St → Prop) : Prop :=
  wp_X5_isPolicy x1 st (fun r_2 s_1 => (r_2 = 0 → (Q (-1 : Int32) s_1)) ∧ (¬ r_2 = 0 → (vp_in ((42 : Int32) * x1) 84 ∧ (Q (s_1 19 ((42 : Int32) * x1).toNatClampNeg) s_1))))

def wp_X5_effectOf (x1 : Int32) (x2 : Int32) (st : St) (Q : Int32 → St → Prop) : Prop :=
  wp_X5_isRule x1 x2 st (fun r_2 s_1 => (r_2 = 0 → (Q (-1 : Int32) s_1)) ∧ (¬ r_2 = 0 → (vp_in ((((42 : Int32) * x1) + (2 : Int32)) + ((5 : Int32) * x2)) 84 ∧ (Q (s_1 19 ((((42 : Int32) * x1) + (2 : Int32)) + ((5 : Int32) * x2)).toNatClampNeg) s_1))))

def wp_X5_targetOf (x1 : Int32) (x2 : Int32) (x3 : Int32) (st : St) (Q : Int32 → St → Prop) : Prop :=
  wp_X5_isRule x1 x2 st (fun r_2 s_1 => (r_2 = 0 → (Q (-1 : Int32) s_1)) ∧ (¬ r_2 = 0 → (wp_X5_in x3 (0 : Int32) (3 : Int32) s_1 (fun r_4 s_3 => (r_4 = 0 → (Q (-1 : Int32) s_3)) ∧ (¬ r_4 = 0 → (vp_in ((((((42 : Int32) * x1) + (2 : Int32)) + ((5 : Int32) * x2)) + (1 : Int32)) + x3) 84 ∧ (Q (s_3 19 ((((((42 : Int32) * x1) + (2 : Int32)) + ((5 : Int32) * x2)) + (1 : Int32)) + x3).toNatClampNeg) s_3)))))))

def wp_X5_algorithmOf (x1 : Int32) (st : St) (Q : Int32 → St → Prop) : Prop :=
  wp_X5_isPolicy x1 st (fun r_2 s_1 => (r_2 = 0 → (Q (-1 : Int32) s_1)) ∧ (¬ r_2 = 0 → (vp_in (((42 : Int32) * x1) + (1 : Int32)) 84 ∧ (Q (s_1 19 (((42 : Int32) * x1) + (1 : Int32)).toNatClampNeg) s_1))))

def wp_X5_partOf (x0 : Int32) (x1 : Int32) (st : St) (Q : Int32 → St → Prop) : Prop :=
  (x1 = (0 : Int32) → (Q (x0 / (128 : Int32)) st)) ∧ (x1 = (1 : Int32) → (Q ((x0 / (32 : Int32)) - (x0 / (32 : Int32)) / (4 : Int32) * (4 : Int32)) st)) ∧ (x1 = (2 : Int32) → (Q ((x0 / (4 : Int32)) - (x0 / (4 : Int32)) / (8 : Int32) * (8 : Int32)) st)) ∧ ((¬ x1 = (0 : Int32) ∧ ¬ x1 = (1 : Int32) ∧ ¬ x1 = (2 : Int32)) → (Q (x0 - x0 / (4 : Int32) * (4 : Int32)) st))

def wp_X5_rulesFor (x1 : Int32) (x2 : Int32) (st : St) (Q : Int32 → St → Prop) : Prop :=
  ∀ (P5 : Int32 → Int32 → St → Prop), 
  ∀ (P40 : Int32 → Int32 → Int32 → Int32 → Int32 → St → Prop), 
  (∀ (x3 : Int32) (x4 : Int32) (st : St), (vp_in ((42 : Int32) * x1) 84 ∧ (((st 19 ((42 : Int32) * x1).toNatClampNeg) ≤ x4 → (Q x3 st)) ∧ (¬ (st 19 ((42 : Int32) * x1).toNatClampNeg) ≤ x4 → (∀ x5_1 : Int32, x5_1 = ((((42 : Int32) * x1) + (2 : Int32)) + ((5 : Int32) * x4)) + (1 : Int32) → P40 x3 x4 x5_1 (1 : Int32) (0 : Int32) st)))) → P5 x3 x4 st) →
  (∀ (x3 : Int32) (x4 : Int32) (x5 : Int32) (x6 : Int32) (x7 : Int32) (st : St), (((4 : Int32) ≤ x7 → ((x6 = 0 → (∀ x3_3 : Int32, x3_3 = x3 ||| (0 : Int32) → ∀ x4_4 : Int32, x4_4 = x4 + (1 : Int32) → P5 x3_3 x4_4 st)) ∧ (¬ x6 = 0 → (∀ x3_5 : Int32, x3_5 = x3 ||| ((1 : Int32) <<< (x4 &&& (31 : Int32))) → ∀ x4_6 : Int32, x4_6 = x4 + (1 : Int32) → P5 x3_5 x4_6 st)))) ∧ (¬ (4 : Int32) ≤ x7 → ((x6 = 0 → (∀ x7_8 : Int32, x7_8 = x7 + (1 : Int32) → P40 x3 x4 x5 (0 : Int32) x7_8 st)) ∧ (¬ x6 = 0 → (vp_in (x5 + x7) 84 ∧ (wp_X5_partOf x2 x7 st (fun r_10 s_9 => wp_X5_has (st 19 (x5 + x7).toNatClampNeg) r_10 s_9 (fun r_12 s_11 => (r_12 = 0 → (∀ x7_13 : Int32, x7_13 = x7 + (1 : Int32) → P40 x3 x4 x5 (0 : Int32) x7_13 s_11)) ∧ (¬ r_12 = 0 → (∀ x7_14 : Int32, x7_14 = x7 + (1 : Int32) → P40 x3 x4 x5 (1 : Int32) x7_14 s_11)))))))))) → P40 x3 x4 x5 x6 x7 st) →
  P5 (0 : Int32) (0 : Int32) st

def wp_X5_bits (x0 : Int32) (st : St) (Q : Int32 → St → Prop) : Prop :=
  ∀ (P4 : Int32 → Int32 → St → Prop), 
  (∀ (x1 : Int32) (x2 : Int32) (st : St), (((8 : Int32) ≤ x2 → (Q x1 st)) ∧ (¬ (8 : Int32) ≤ x2 → (∀ x1_1 : Int32, x1_1 = x1 + ((x0 >>> (x2 &&& (31 : Int32))) &&& (1 : Int32)) → ∀ x2_2 : Int32, x2_2 = x2 + (1 : Int32) → P4 x1_1 x2_2 st))) → P4 x1 x2 st) →
  P4 (0 : Int32) (0 : Int32) st

def wp_X5_permits (x1 : Int32) (st : St) (Q : Int32 → St → Prop) : Prop :=
  ∀ (P4 : Int32 → Int32 → St → Prop), 
  (∀ (x2 : Int32) (x3 : Int32) (st : St), (vp_in ((42 : Int32) * x1) 84 ∧ (((st 19 ((42 : Int32) * x1).toNatClampNeg) ≤ x3 → (Q x2 st)) ∧ (¬ (st 19 ((42 : Int32) * x1).toNatClampNeg) ≤ x3 → (vp_in ((((42 : Int32) * x1) + (2 : Int32)) + ((5 : Int32) * x3)) 84 ∧ (((st 19 ((((42 : Int32) * x1) + (2 : Int32)) + ((5 : Int32) * x3)).toNatClampNeg) = 0 → (∀ x2_3 : Int32, x2_3 = x2 ||| ((1 : Int32) <<< (x3 &&& (31 : Int32))) → ∀ x3_4 : Int32, x3_4 = x3 + (1 : Int32) → P4 x2_3 x3_4 st)) ∧ (¬ (st 19 ((((42 : Int32) * x1) + (2 : Int32)) + ((5 : Int32) * x3)).toNatClampNeg) = 0 → (∀ x2_1 : Int32, x2_1 = x2 ||| (0 : Int32) → ∀ x3_2 : Int32, x3_2 = x3 + (1 : Int32) → P4 x2_1 x3_2 st))))))) → P4 x2 x3 st) →
  P4 (0 : Int32) (0 : Int32) st

def wp_X5_decided (x0 : Int32) (x1 : Int32) (x2 : Int32) (st : St) (Q : Int32 → St → Prop) : Prop :=
  (x1 = 0 → (Q (2 : Int32) st)) ∧ (¬ x1 = 0 → (wp_X5_bits (x1 &&& x2) st (fun r_2 s_1 => wp_X5_bits x1 s_1 (fun r_4 s_3 => ∀ x4_5 : Int32, x4_5 = r_4 - r_2 → (x0 = (0 : Int32) → (∀ x5_7 : Int32, x5_7 = x1 &&& (-x1) → ((x5_7 &&& x2) = 0 → (Q (1 : Int32) s_3)) ∧ (¬ (x5_7 &&& x2) = 0 → (Q (0 : Int32) s_3)))) ∧ (x0 = (1 : Int32) → ((x4_5 ≤ 0 → (Q (0 : Int32) s_3)) ∧ (¬ x4_5 ≤ 0 → (Q (1 : Int32) s_3)))) ∧ (x0 = (2 : Int32) → ((r_2 ≤ 0 → (Q (1 : Int32) s_3)) ∧ (¬ r_2 ≤ 0 → (Q (0 : Int32) s_3)))) ∧ (x0 = (3 : Int32) → (((r_2 + x4_5) ≤ (1 : Int32) → ((r_2 = (1 : Int32) → (Q (0 : Int32) s_3)) ∧ (¬ r_2 = (1 : Int32) → (Q (1 : Int32) s_3)))) ∧ (¬ (r_2 + x4_5) ≤ (1 : Int32) → (Q (3 : Int32) s_3)))) ∧ ((¬ x0 = (0 : Int32) ∧ ¬ x0 = (1 : Int32) ∧ ¬ x0 = (2 : Int32) ∧ ¬ x0 = (3 : Int32)) → ((r_2 ≤ x4_5 → ((x4_5 ≤ r_2 → (Q (3 : Int32) s_3)) ∧ (¬ x4_5 ≤ r_2 → (Q (1 : Int32) s_3)))) ∧ (¬ r_2 ≤ x4_5 → (Q (0 : Int32) s_3))))))))

def wp_X5_decision (x1 : Int32) (x2 : Int32) (st : St) (Q : Int32 → St → Prop) : Prop :=
  vp_in (((42 : Int32) * x1) + (1 : Int32)) 84 ∧ (wp_X5_rulesFor x1 x2 st (fun r_2 s_1 => wp_X5_permits x1 s_1 (fun r_4 s_3 => wp_X5_decided (st 19 (((42 : Int32) * x1) + (1 : Int32)).toNatClampNeg) r_2 r_4 s_3 (fun r_6 s_5 => Q r_6 s_5))))

def wp_X5_isRequest (x0 : Int32) (st : St) (Q : Int32 → St → Prop) : Prop :=
  wp_X5_in x0 (0 : Int32) (1023 : Int32) st (fun r_2 s_1 => (r_2 = 0 ∨ r_2 = 1) ∧ Q r_2 s_1)

def wp_X5_decide (x1 : Int32) (x2 : Int32) (st : St) (Q : Int32 → St → Prop) : Prop :=
  wp_X5_isPolicy x1 st (fun r_2 s_1 => (r_2 = 0 → (Q (-1 : Int32) s_1)) ∧ (¬ r_2 = 0 → (wp_X5_isRequest x2 s_1 (fun r_4 s_3 => (r_4 = 0 → (Q (-1 : Int32) s_3)) ∧ (¬ r_4 = 0 → (wp_X5_decision x1 x2 s_3 (fun r_6 s_5 => Q r_6 s_5)))))))

def wp_X5_decisionCount (x1 : Int32) (x2 : Int32) (st : St) (Q : Int32 → St → Prop) : Prop :=
  ∀ (P23 : Int32 → Int32 → St → Prop), 
  (∀ (x3 : Int32) (x4 : Int32) (st : St), (((1024 : Int32) ≤ x4 → (Q x3 st)) ∧ (¬ (1024 : Int32) ≤ x4 → (wp_X5_decision x1 x4 st (fun r_2 s_1 => (r_2 = x2 → (∀ x3_5 : Int32, x3_5 = x3 + (1 : Int32) → ∀ x4_6 : Int32, x4_6 = x4 + (1 : Int32) → P23 x3_5 x4_6 s_1)) ∧ (¬ r_2 = x2 → (∀ x3_3 : Int32, x3_3 = x3 + (0 : Int32) → ∀ x4_4 : Int32, x4_4 = x4 + (1 : Int32) → P23 x3_3 x4_4 s_1)))))) → P23 x3 x4 st) →
  wp_X5_isPolicy x1 st (fun r_10 s_9 => (r_10 = 0 → (Q (-1 : Int32) s_9)) ∧ (¬ r_10 = 0 → (wp_X5_in x2 (0 : Int32) (3 : Int32) s_9 (fun r_12 s_11 => (r_12 = 0 → (Q (-1 : Int32) s_11)) ∧ (¬ r_12 = 0 → (P23 (0 : Int32) (0 : Int32) s_11))))))

def wp_X5_applicableRules (x1 : Int32) (x2 : Int32) (st : St) (Q : Int32 → St → Prop) : Prop :=
  wp_X5_isPolicy x1 st (fun r_2 s_1 => (r_2 = 0 → (Q (-1 : Int32) s_1)) ∧ (¬ r_2 = 0 → (wp_X5_isRequest x2 s_1 (fun r_4 s_3 => (r_4 = 0 → (Q (-1 : Int32) s_3)) ∧ (¬ r_4 = 0 → (wp_X5_rulesFor x1 x2 s_3 (fun r_6 s_5 => wp_X5_bits r_6 s_5 (fun r_8 s_7 => Q r_8 s_7))))))))

def wp_X5_gains (x1 : Int32) (st : St) (Q : Int32 → St → Prop) : Prop :=
  wp_X5_decision (1 : Int32) x1 st (fun r_2 s_1 => (r_2 = 0 → (wp_X5_decision (0 : Int32) x1 s_1 (fun r_4 s_3 => (r_4 = 0 → (Q (0 : Int32) s_3)) ∧ (¬ r_4 = 0 → (Q (1 : Int32) s_3))))) ∧ (¬ r_2 = 0 → (Q (0 : Int32) s_1)))

def wp_X5_loses (x1 : Int32) (st : St) (Q : Int32 → St → Prop) : Prop :=
  wp_X5_decision (0 : Int32) x1 st (fun r_2 s_1 => (r_2 = 0 → (wp_X5_decision (1 : Int32) x1 s_1 (fun r_4 s_3 => (r_4 = 0 → (Q (0 : Int32) s_3)) ∧ (¬ r_4 = 0 → (Q (1 : Int32) s_3))))) ∧ (¬ r_2 = 0 → (Q (0 : Int32) s_1)))

def wp_X5_gainCount  (st : St) (Q : Int32 → St → Prop) : Prop :=
  ∀ (P4 : Int32 → Int32 → St → Prop), 
  (∀ (x1 : Int32) (x2 : Int32) (st : St), (((1024 : Int32) ≤ x2 → (Q x1 st)) ∧ (¬ (1024 : Int32) ≤ x2 → (wp_X5_gains x2 st (fun r_2 s_1 => (r_2 = 0 → (∀ x1_3 : Int32, x1_3 = x1 + (0 : Int32) → ∀ x2_4 : Int32, x2_4 = x2 + (1 : Int32) → P4 x1_3 x2_4 s_1)) ∧ (¬ r_2 = 0 → (∀ x1_5 : Int32, x1_5 = x1 + (1 : Int32) → ∀ x2_6 : Int32, x2_6 = x2 + (1 : Int32) → P4 x1_5 x2_6 s_1)))))) → P4 x1 x2 st) →
  P4 (0 : Int32) (0 : Int32) st

def wp_X5_lossCount  (st : St) (Q : Int32 → St → Prop) : Prop :=
  ∀ (P4 : Int32 → Int32 → St → Prop), 
  (∀ (x1 : Int32) (x2 : Int32) (st : St), (((1024 : Int32) ≤ x2 → (Q x1 st)) ∧ (¬ (1024 : Int32) ≤ x2 → (wp_X5_loses x2 st (fun r_2 s_1 => (r_2 = 0 → (∀ x1_3 : Int32, x1_3 = x1 + (0 : Int32) → ∀ x2_4 : Int32, x2_4 = x2 + (1 : Int32) → P4 x1_3 x2_4 s_1)) ∧ (¬ r_2 = 0 → (∀ x1_5 : Int32, x1_5 = x1 + (1 : Int32) → ∀ x2_6 : Int32, x2_6 = x2 + (1 : Int32) → P4 x1_5 x2_6 s_1)))))) → P4 x1 x2 st) →
  P4 (0 : Int32) (0 : Int32) st

def wp_X5_gainCountOf (x1 : Int32) (x2 : Int32) (st : St) (Q : Int32 → St → Prop) : Prop :=
  ∀ (P30 : Int32 → Int32 → St → Prop), 
  ∀ (P62 : Int32 → Int32 → St → Prop), 
  (∀ (x3 : Int32) (x4 : Int32) (st : St), (((1024 : Int32) ≤ x4 → (Q x3 st)) ∧ (¬ (1024 : Int32) ≤ x4 → (wp_X5_partOf x4 x1 st (fun r_2 s_1 => (r_2 = x2 → (wp_X5_gains x4 s_1 (fun r_4 s_3 => (r_4 = 0 → (P62 x4 x3 s_3)) ∧ (¬ r_4 = 0 → (∀ x3_5 : Int32, x3_5 = x3 + (1 : Int32) → ∀ x4_6 : Int32, x4_6 = x4 + (1 : Int32) → P30 x3_5 x4_6 s_3))))) ∧ (¬ r_2 = x2 → (P62 x4 x3 s_1)))))) → P30 x3 x4 st) →
  (∀ (x4 : Int32) (y0 : Int32) (st : St), (∀ x3_10 : Int32, x3_10 = y0 + (0 : Int32) → ∀ x4_11 : Int32, x4_11 = x4 + (1 : Int32) → P30 x3_10 x4_11 st) → P62 x4 y0 st) →
  wp_X5_in x1 (0 : Int32) (3 : Int32) st (fun r_13 s_12 => (r_13 = 0 → (Q (-1 : Int32) s_12)) ∧ (¬ r_13 = 0 → (wp_X5_valuesOf x1 s_12 (fun r_15 s_14 => wp_X5_in x2 (0 : Int32) (r_15 - (1 : Int32)) s_14 (fun r_17 s_16 => (r_17 = 0 → (Q (-1 : Int32) s_16)) ∧ (¬ r_17 = 0 → (P30 (0 : Int32) (0 : Int32) s_16)))))))

def wp_X5_nextGain (x1 : Int32) (st : St) (Q : Int32 → St → Prop) : Prop :=
  ∀ (P11 : Int32 → St → Prop), 
  ∀ (P32 : Int32 → St → Prop), 
  (∀ (x2 : Int32) (st : St), (((1024 : Int32) ≤ x2 → (P32 x2 st)) ∧ (¬ (1024 : Int32) ≤ x2 → (wp_X5_gains x2 st (fun r_2 s_1 => (r_2 = 0 → (∀ x2_3 : Int32, x2_3 = x2 + (1 : Int32) → P11 x2_3 s_1)) ∧ (¬ r_2 = 0 → (P32 x2 s_1)))))) → P11 x2 st) →
  (∀ (x2 : Int32) (st : St), (((1024 : Int32) ≤ x2 → (Q (-4 : Int32) st)) ∧ (¬ (1024 : Int32) ≤ x2 → (Q x2 st))) → P32 x2 st) →
  wp_X5_isRequest x1 st (fun r_8 s_7 => (r_8 = 0 → (Q (-1 : Int32) s_7)) ∧ (¬ r_8 = 0 → (P11 x1 s_7)))

def wp_X5_nextLoss (x1 : Int32) (st : St) (Q : Int32 → St → Prop) : Prop :=
  ∀ (P11 : Int32 → St → Prop), 
  ∀ (P32 : Int32 → St → Prop), 
  (∀ (x2 : Int32) (st : St), (((1024 : Int32) ≤ x2 → (P32 x2 st)) ∧ (¬ (1024 : Int32) ≤ x2 → (wp_X5_loses x2 st (fun r_2 s_1 => (r_2 = 0 → (∀ x2_3 : Int32, x2_3 = x2 + (1 : Int32) → P11 x2_3 s_1)) ∧ (¬ r_2 = 0 → (P32 x2 s_1)))))) → P11 x2 st) →
  (∀ (x2 : Int32) (st : St), (((1024 : Int32) ≤ x2 → (Q (-4 : Int32) st)) ∧ (¬ (1024 : Int32) ≤ x2 → (Q x2 st))) → P32 x2 st) →
  wp_X5_isRequest x1 st (fun r_8 s_7 => (r_8 = 0 → (Q (-1 : Int32) s_7)) ∧ (¬ r_8 = 0 → (P11 x1 s_7)))

def wp_X5_transitionCount (x1 : Int32) (x2 : Int32) (st : St) (Q : Int32 → St → Prop) : Prop :=
  ∀ (P25 : Int32 → Int32 → St → Prop), 
  ∀ (P60 : Int32 → Int32 → St → Prop), 
  (∀ (x3 : Int32) (x4 : Int32) (st : St), (((1024 : Int32) ≤ x4 → (Q x3 st)) ∧ (¬ (1024 : Int32) ≤ x4 → (wp_X5_decision (0 : Int32) x4 st (fun r_2 s_1 => (r_2 = x1 → (wp_X5_decision (1 : Int32) x4 s_1 (fun r_4 s_3 => (r_4 = x2 → (∀ x3_5 : Int32, x3_5 = x3 + (1 : Int32) → ∀ x4_6 : Int32, x4_6 = x4 + (1 : Int32) → P25 x3_5 x4_6 s_3)) ∧ (¬ r_4 = x2 → (P60 x4 x3 s_3))))) ∧ (¬ r_2 = x1 → (P60 x4 x3 s_1)))))) → P25 x3 x4 st) →
  (∀ (x4 : Int32) (y0 : Int32) (st : St), (∀ x3_10 : Int32, x3_10 = y0 + (0 : Int32) → ∀ x4_11 : Int32, x4_11 = x4 + (1 : Int32) → P25 x3_10 x4_11 st) → P60 x4 y0 st) →
  wp_X5_in x1 (0 : Int32) (3 : Int32) st (fun r_13 s_12 => (r_13 = 0 → (Q (-1 : Int32) s_12)) ∧ (¬ r_13 = 0 → (wp_X5_in x2 (0 : Int32) (3 : Int32) s_12 (fun r_15 s_14 => (r_15 = 0 → (Q (-1 : Int32) s_14)) ∧ (¬ r_15 = 0 → (P25 (0 : Int32) (0 : Int32) s_14))))))

def wp_X5_grantedShareBits (x1 : Int32) (st : St) (Q : Int32 → St → Prop) : Prop :=
  ∀ (P24 : Int32 → Int32 → St → Prop), 
  (∀ (x2 : Int32) (x3 : Int32) (st : St), (((x2 >>> (x3 &&& (31 : Int32))) ≤ (1 : Int32) → (Q (((((127 : Int32) + x3) - (10 : Int32)) <<< ((23 : Int32) &&& (31 : Int32))) ||| ((x2 ^^^ ((1 : Int32) <<< (x3 &&& (31 : Int32)))) <<< (((23 : Int32) - x3) &&& (31 : Int32)))) st)) ∧ (¬ (x2 >>> (x3 &&& (31 : Int32))) ≤ (1 : Int32) → (∀ x3_1 : Int32, x3_1 = x3 + (1 : Int32) → P24 x2 x3_1 st))) → P24 x2 x3 st) →
  wp_X5_isPolicy x1 st (fun r_4 s_3 => (r_4 = 0 → (Q (-1 : Int32) s_3)) ∧ (¬ r_4 = 0 → (wp_X5_decisionCount x1 (0 : Int32) s_3 (fun r_6 s_5 => (r_6 = 0 → (Q (0 : Int32) s_5)) ∧ (¬ r_6 = 0 → (P24 r_6 (0 : Int32) s_5))))))

def wp_X5_looks (x1 : Int32) (st : St) (Q : St → Prop) : Prop :=
  ∀ (P2 : Int32 → St → Prop), 
  (∀ (x2 : Int32) (st : St), (((1024 : Int32) ≤ x2 → (Q st)) ∧ (¬ (1024 : Int32) ≤ x2 → (wp_X5_rulesFor x1 x2 st (fun r_2 s_1 => vp_in x2 1024 ∧ (∀ x2_3 : Int32, x2_3 = x2 + (1 : Int32) → P2 x2_3 (up2 s_1 22 x2.toNatClampNeg r_2)))))) → P2 x2 st) →
  P2 (0 : Int32) st

def wp_X5_shows (x1 : Int32) (x2 : Int32) (x3 : Int32) (st : St) (Q : Int32 → St → Prop) : Prop :=
  ∀ (P23 : Int32 → Int32 → Int32 → St → Prop), 
  (∀ (x4 : Int32) (x5 : Int32) (x6 : Int32) (st : St), (((1024 : Int32) ≤ x6 → (Q (-4 : Int32) st)) ∧ (¬ (1024 : Int32) ≤ x6 → (vp_in x6 1024 ∧ (∀ x7_1 : Int32, x7_1 = (st 22 x6.toNatClampNeg) &&& x2 → wp_X5_has x7_1 x3 st (fun r_3 s_2 => (r_3 = 0 → (∀ x6_4 : Int32, x6_4 = x6 + (1 : Int32) → P23 x4 x5 x6_4 s_2)) ∧ (¬ r_3 = 0 → (wp_X5_decided x5 x7_1 x4 s_2 (fun r_6 s_5 => wp_X5_decided x5 (x7_1 &&& (((1 : Int32) <<< (x3 &&& (31 : Int32))) ^^^ (-1 : Int32))) x4 s_5 (fun r_8 s_7 => (r_6 = r_8 → (∀ x6_9 : Int32, x6_9 = x6 + (1 : Int32) → P23 x4 x5 x6_9 s_7)) ∧ (¬ r_6 = r_8 → (Q x6 s_7))))))))))) → P23 x4 x5 x6 st) →
  wp_X5_permits x1 st (fun r_14 s_13 => vp_in (((42 : Int32) * x1) + (1 : Int32)) 84 ∧ (∀ x5_15 : Int32, x5_15 = s_13 19 (((42 : Int32) * x1) + (1 : Int32)).toNatClampNeg → P23 r_14 x5_15 (0 : Int32) s_13))

def wp_X5_witness (x1 : Int32) (x2 : Int32) (st : St) (Q : Int32 → St → Prop) : Prop :=
  wp_X5_isRule x1 x2 st (fun r_2 s_1 => (r_2 = 0 → (Q (-1 : Int32) s_1)) ∧ (¬ r_2 = 0 → (wp_X5_looks x1 s_1 (fun s_3 => wp_X5_shows x1 (255 : Int32) x2 s_3 (fun r_5 s_4 => Q r_5 s_4)))))

def wp_X5_isRedundant (x1 : Int32) (x2 : Int32) (st : St) (Q : Int32 → St → Prop) : Prop :=
  wp_X5_witness x1 x2 st (fun r_2 s_1 => (r_2 = (-1 : Int32) → (Q r_2 s_1)) ∧ (¬ r_2 = (-1 : Int32) → ((r_2 = (-4 : Int32) → (Q (1 : Int32) s_1)) ∧ (¬ r_2 = (-4 : Int32) → (Q (0 : Int32) s_1)))))

def wp_X5_irredundantCore (x1 : Int32) (st : St) (Q : Int32 → St → Prop) : Prop :=
  ∀ (P30 : Int32 → Int32 → St → Prop), 
  (∀ (x2 : Int32) (x3 : Int32) (st : St), (vp_in ((42 : Int32) * x1) 84 ∧ (((st 19 ((42 : Int32) * x1).toNatClampNeg) ≤ x3 → (Q x2 st)) ∧ (¬ (st 19 ((42 : Int32) * x1).toNatClampNeg) ≤ x3 → (wp_X5_has x2 x3 st (fun r_2 s_1 => (r_2 = 0 → (∀ x3_3 : Int32, x3_3 = x3 + (1 : Int32) → P30 x2 x3_3 s_1)) ∧ (¬ r_2 = 0 → (wp_X5_shows x1 x2 x3 s_1 (fun r_5 s_4 => (r_5 = (-4 : Int32) → (∀ x2_7 : Int32, x2_7 = x2 &&& (((1 : Int32) <<< (x3 &&& (31 : Int32))) ^^^ (-1 : Int32)) → P30 x2_7 (0 : Int32) s_4)) ∧ (¬ r_5 = (-4 : Int32) → (∀ x3_6 : Int32, x3_6 = x3 + (1 : Int32) → P30 x2 x3_6 s_4)))))))))) → P30 x2 x3 st) →
  wp_X5_isPolicy x1 st (fun r_12 s_11 => (r_12 = 0 → (Q (-1 : Int32) s_11)) ∧ (¬ r_12 = 0 → (wp_X5_looks x1 s_11 (fun s_13 => vp_in ((42 : Int32) * x1) 84 ∧ (∀ x2_14 : Int32, x2_14 = ((1 : Int32) <<< ((s_13 19 ((42 : Int32) * x1).toNatClampNeg) &&& (31 : Int32))) - (1 : Int32) → P30 x2_14 (0 : Int32) s_13)))))

def wp_X5_isWithoutGain (x1 : Int32) (st : St) (Q : Int32 → St → Prop) : Prop :=
  ∀ (P17 : Int32 → Int32 → Int32 → St → Prop), 
  (∀ (x2 : Int32) (x3 : Int32) (x4 : Int32) (st : St), (((1024 : Int32) ≤ x4 → (Q (1 : Int32) st)) ∧ (¬ (1024 : Int32) ≤ x4 → (vp_in x4 1024 ∧ (((st 23 x4.toNatClampNeg) = 0 → (vp_in x4 1024 ∧ (wp_X5_decided x3 ((st 22 x4.toNatClampNeg) &&& x1) x2 st (fun r_3 s_2 => (r_3 = 0 → (Q (0 : Int32) s_2)) ∧ (¬ r_3 = 0 → (∀ x4_4 : Int32, x4_4 = x4 + (1 : Int32) → P17 x2 x3 x4_4 s_2)))))) ∧ (¬ (st 23 x4.toNatClampNeg) = 0 → (∀ x4_1 : Int32, x4_1 = x4 + (1 : Int32) → P17 x2 x3 x4_1 st)))))) → P17 x2 x3 x4 st) →
  wp_X5_permits (1 : Int32) st (fun r_9 s_8 => vp_in (43 : Int32) 84 ∧ (∀ x3_10 : Int32, x3_10 = s_8 19 (43 : Int32).toNatClampNeg → P17 r_9 x3_10 (0 : Int32) s_8))

def wp_X5_leastRemoval  (st : St) (Q : Int32 → St → Prop) : Prop :=
  ∀ (P7 : Int32 → St → Prop), 
  ∀ (P54 : Int32 → Int32 → St → Prop), 
  ∀ (P67 : Int32 → Int32 → Int32 → St → Prop), 
  (∀ (x1 : Int32) (st : St), (((1024 : Int32) ≤ x1 → (vp_in (42 : Int32) 84 ∧ (∀ x1_1 : Int32, x1_1 = ((1 : Int32) <<< ((st 19 (42 : Int32).toNatClampNeg) &&& (31 : Int32))) - (1 : Int32) → P54 x1_1 (0 : Int32) st))) ∧ (¬ (1024 : Int32) ≤ x1 → (wp_X5_decision (0 : Int32) x1 st (fun r_3 s_2 => (r_3 = 0 → (vp_in x1 1024 ∧ (∀ x1_5 : Int32, x1_5 = x1 + (1 : Int32) → P7 x1_5 (up2 s_2 23 x1.toNatClampNeg (1 : Int32))))) ∧ (¬ r_3 = 0 → (vp_in x1 1024 ∧ (∀ x1_4 : Int32, x1_4 = x1 + (1 : Int32) → P7 x1_4 (up2 s_2 23 x1.toNatClampNeg (0 : Int32))))))))) → P7 x1 st) →
  (∀ (x1 : Int32) (x2 : Int32) (st : St), (vp_in (42 : Int32) 84 ∧ (((st 19 (42 : Int32).toNatClampNeg) < x2 → (Q (-4 : Int32) st)) ∧ (¬ (st 19 (42 : Int32).toNatClampNeg) < x2 → (P67 x1 x2 (0 : Int32) st)))) → P54 x1 x2 st) →
  (∀ (x1 : Int32) (x2 : Int32) (x3 : Int32) (st : St), ((x1 < x3 → (∀ x2_9 : Int32, x2_9 = x2 + (1 : Int32) → P54 x1 x2_9 st)) ∧ (¬ x1 < x3 → (wp_X5_bits x3 st (fun r_11 s_10 => (r_11 = x2 → (wp_X5_isWithoutGain (x1 &&& (x3 ^^^ (-1 : Int32))) s_10 (fun r_14 s_13 => (r_14 = 0 → (∀ x3_15 : Int32, x3_15 = x3 + (1 : Int32) → P67 x1 x2 x3_15 s_13)) ∧ (¬ r_14 = 0 → (Q x3 s_13))))) ∧ (¬ r_11 = x2 → (∀ x3_12 : Int32, x3_12 = x3 + (1 : Int32) → P67 x1 x2 x3_12 s_10)))))) → P67 x1 x2 x3 st) →
  wp_X5_looks (1 : Int32) st (fun s_19 => P7 (0 : Int32) s_19)

def wp_X5_historySize  (st : St) (Q : Int32 → St → Prop) : Prop :=
  Q (st 17 5) st
