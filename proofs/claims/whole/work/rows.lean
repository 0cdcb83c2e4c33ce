section
-- ===== PART A: goes FIRST, ahead of the names: the tables' words, and 'selects' of the private methods out of them =====
/-- a private method of a class that the tables say can be made, by its rows of tables_1 -/
def lw_okq (q : MethodName × Nat) : Prop := (q.1.cls ≠ "java/lang/invoke/MethodHandle" ∧ q.1.cls ≠ "java/lang/invoke/VarHandle") ∧ Cond.instantiable q.1.cls q.2 ∈ tables_1 ∧ Cond.privateMethod q.1 ∈ tables_1 ∧ Cond.instanceMethod q.1 ∈ tables_1
theorem lw_p0 : lw_okq (⟨"PolicyComparer$PolicyText", "readStatement", "()Z"⟩, 6) := ⟨⟨by decide +kernel, by decide +kernel⟩, List.mem_of_getElem? (i := 40) (by decide +kernel), List.mem_of_getElem? (i := 165) (by decide +kernel), List.mem_of_getElem? (i := 166) (by decide +kernel)⟩
theorem lw_p1 : lw_okq (⟨"PolicyComparer$PolicyText", "accept", "(Ljava/lang/String;)Z"⟩, 6) := ⟨⟨by decide +kernel, by decide +kernel⟩, List.mem_of_getElem? (i := 40) (by decide +kernel), List.mem_of_getElem? (i := 170) (by decide +kernel), List.mem_of_getElem? (i := 171) (by decide +kernel)⟩
theorem lw_p2 : lw_okq (⟨"PolicyComparer$PolicyText", "readAlgorithm", "()Z"⟩, 6) := ⟨⟨by decide +kernel, by decide +kernel⟩, List.mem_of_getElem? (i := 40) (by decide +kernel), List.mem_of_getElem? (i := 178) (by decide +kernel), List.mem_of_getElem? (i := 179) (by decide +kernel)⟩
theorem lw_p3 : lw_okq (⟨"PolicyComparer$PolicyText", "readRule", "(I)Z"⟩, 6) := ⟨⟨by decide +kernel, by decide +kernel⟩, List.mem_of_getElem? (i := 40) (by decide +kernel), List.mem_of_getElem? (i := 192) (by decide +kernel), List.mem_of_getElem? (i := 193) (by decide +kernel)⟩
theorem lw_p4 : lw_okq (⟨"PolicyComparer$PolicyText", "readAttribute", "()I"⟩, 6) := ⟨⟨by decide +kernel, by decide +kernel⟩, List.mem_of_getElem? (i := 40) (by decide +kernel), List.mem_of_getElem? (i := 208) (by decide +kernel), List.mem_of_getElem? (i := 209) (by decide +kernel)⟩
theorem lw_p5 : lw_okq (⟨"PolicyComparer$PolicyText", "acceptCharacter", "(C)Z"⟩, 6) := ⟨⟨by decide +kernel, by decide +kernel⟩, List.mem_of_getElem? (i := 40) (by decide +kernel), List.mem_of_getElem? (i := 213) (by decide +kernel), List.mem_of_getElem? (i := 214) (by decide +kernel)⟩
theorem lw_p6 : lw_okq (⟨"PolicyComparer$PolicyText", "readValues", "(I)I"⟩, 6) := ⟨⟨by decide +kernel, by decide +kernel⟩, List.mem_of_getElem? (i := 40) (by decide +kernel), List.mem_of_getElem? (i := 219) (by decide +kernel), List.mem_of_getElem? (i := 220) (by decide +kernel)⟩
theorem lw_p7 : lw_okq (⟨"PolicyComparer", "takeDrafts", "()V"⟩, 5) := ⟨⟨by decide +kernel, by decide +kernel⟩, List.mem_of_getElem? (i := 15) (by decide +kernel), List.mem_of_getElem? (i := 232) (by decide +kernel), List.mem_of_getElem? (i := 233) (by decide +kernel)⟩
theorem lw_p8 : lw_okq (⟨"PolicyComparer", "policyNumbered", "(I)LPolicyComparer$Policy;"⟩, 5) := ⟨⟨by decide +kernel, by decide +kernel⟩, List.mem_of_getElem? (i := 15) (by decide +kernel), List.mem_of_getElem? (i := 307) (by decide +kernel), List.mem_of_getElem? (i := 308) (by decide +kernel)⟩
theorem lw_p9 : lw_okq (⟨"PolicyComparer$History", "forgetOldest", "()V"⟩, 3) := ⟨⟨by decide +kernel, by decide +kernel⟩, List.mem_of_getElem? (i := 68) (by decide +kernel), List.mem_of_getElem? (i := 315) (by decide +kernel), List.mem_of_getElem? (i := 316) (by decide +kernel)⟩
theorem lw_p10 : lw_okq (⟨"PolicyComparer", "isRule", "(II)Z"⟩, 5) := ⟨⟨by decide +kernel, by decide +kernel⟩, List.mem_of_getElem? (i := 15) (by decide +kernel), List.mem_of_getElem? (i := 329) (by decide +kernel), List.mem_of_getElem? (i := 330) (by decide +kernel)⟩
theorem lw_p11 : lw_okq (⟨"PolicyComparer", "lowestRedundant", "(LPolicyComparer$Policy;I)I"⟩, 5) := ⟨⟨by decide +kernel, by decide +kernel⟩, List.mem_of_getElem? (i := 15) (by decide +kernel), List.mem_of_getElem? (i := 550) (by decide +kernel), List.mem_of_getElem? (i := 551) (by decide +kernel)⟩
theorem lw_p12 : lw_okq (⟨"PolicyComparerModel", "clears", "()V"⟩, 11) := ⟨⟨by decide +kernel, by decide +kernel⟩, List.mem_of_getElem? (i := 571) (by decide +kernel), List.mem_of_getElem? (i := 577) (by decide +kernel), List.mem_of_getElem? (i := 578) (by decide +kernel)⟩
theorem lw_p13 : lw_okq (⟨"PolicyComparerModel", "sets", "(IIIIIII)V"⟩, 11) := ⟨⟨by decide +kernel, by decide +kernel⟩, List.mem_of_getElem? (i := 571) (by decide +kernel), List.mem_of_getElem? (i := 581) (by decide +kernel), List.mem_of_getElem? (i := 582) (by decide +kernel)⟩
theorem lw_p14 : lw_okq (⟨"PolicyComparerModel", "takes", "()V"⟩, 11) := ⟨⟨by decide +kernel, by decide +kernel⟩, List.mem_of_getElem? (i := 571) (by decide +kernel), List.mem_of_getElem? (i := 585) (by decide +kernel), List.mem_of_getElem? (i := 586) (by decide +kernel)⟩
theorem lw_p15 : lw_okq (⟨"PolicyComparerModel", "statement", "()Z"⟩, 11) := ⟨⟨by decide +kernel, by decide +kernel⟩, List.mem_of_getElem? (i := 571) (by decide +kernel), List.mem_of_getElem? (i := 638) (by decide +kernel), List.mem_of_getElem? (i := 639) (by decide +kernel)⟩
def lw_privs_1 : List (MethodName × Nat) := [(⟨"PolicyComparer$PolicyText", "readStatement", "()Z"⟩, 6), (⟨"PolicyComparer$PolicyText", "accept", "(Ljava/lang/String;)Z"⟩, 6), (⟨"PolicyComparer$PolicyText", "readAlgorithm", "()Z"⟩, 6), (⟨"PolicyComparer$PolicyText", "readRule", "(I)Z"⟩, 6), (⟨"PolicyComparer$PolicyText", "readAttribute", "()I"⟩, 6), (⟨"PolicyComparer$PolicyText", "acceptCharacter", "(C)Z"⟩, 6), (⟨"PolicyComparer$PolicyText", "readValues", "(I)I"⟩, 6), (⟨"PolicyComparer", "takeDrafts", "()V"⟩, 5), (⟨"PolicyComparer", "policyNumbered", "(I)LPolicyComparer$Policy;"⟩, 5), (⟨"PolicyComparer$History", "forgetOldest", "()V"⟩, 3), (⟨"PolicyComparer", "isRule", "(II)Z"⟩, 5), (⟨"PolicyComparer", "lowestRedundant", "(LPolicyComparer$Policy;I)I"⟩, 5), (⟨"PolicyComparerModel", "clears", "()V"⟩, 11), (⟨"PolicyComparerModel", "sets", "(IIIIIII)V"⟩, 11), (⟨"PolicyComparerModel", "takes", "()V"⟩, 11), (⟨"PolicyComparerModel", "statement", "()Z"⟩, 11)]
theorem lw_r1 : ∀ q ∈ lw_privs_1, lw_okq q := List.forall_mem_cons.mpr ⟨lw_p0, List.forall_mem_cons.mpr ⟨lw_p1, List.forall_mem_cons.mpr ⟨lw_p2, List.forall_mem_cons.mpr ⟨lw_p3, List.forall_mem_cons.mpr ⟨lw_p4, List.forall_mem_cons.mpr ⟨lw_p5, List.forall_mem_cons.mpr ⟨lw_p6, List.forall_mem_cons.mpr ⟨lw_p7, List.forall_mem_cons.mpr ⟨lw_p8, List.forall_mem_cons.mpr ⟨lw_p9, List.forall_mem_cons.mpr ⟨lw_p10, List.forall_mem_cons.mpr ⟨lw_p11, List.forall_mem_cons.mpr ⟨lw_p12, List.forall_mem_cons.mpr ⟨lw_p13, List.forall_mem_cons.mpr ⟨lw_p14, List.forall_mem_cons.mpr ⟨lw_p15, fun _ h => absurd h List.not_mem_nil⟩⟩⟩⟩⟩⟩⟩⟩⟩⟩⟩⟩⟩⟩⟩⟩
theorem lw_p16 : lw_okq (⟨"PolicyComparerModel", "word", "(IIIIIII)Z"⟩, 11) := ⟨⟨by decide +kernel, by decide +kernel⟩, List.mem_of_getElem? (i := 571) (by decide +kernel), List.mem_of_getElem? (i := 642) (by decide +kernel), List.mem_of_getElem? (i := 643) (by decide +kernel)⟩
theorem lw_p17 : lw_okq (⟨"PolicyComparerModel", "is", "(II)Z"⟩, 11) := ⟨⟨by decide +kernel, by decide +kernel⟩, List.mem_of_getElem? (i := 571) (by decide +kernel), List.mem_of_getElem? (i := 646) (by decide +kernel), List.mem_of_getElem? (i := 647) (by decide +kernel)⟩
theorem lw_p18 : lw_okq (⟨"PolicyComparerModel", "rule", "(II)Z"⟩, 11) := ⟨⟨by decide +kernel, by decide +kernel⟩, List.mem_of_getElem? (i := 571) (by decide +kernel), List.mem_of_getElem? (i := 650) (by decide +kernel), List.mem_of_getElem? (i := 651) (by decide +kernel)⟩
theorem lw_p19 : lw_okq (⟨"PolicyComparerModel", "constraints", "(I)Z"⟩, 11) := ⟨⟨by decide +kernel, by decide +kernel⟩, List.mem_of_getElem? (i := 571) (by decide +kernel), List.mem_of_getElem? (i := 657) (by decide +kernel), List.mem_of_getElem? (i := 658) (by decide +kernel)⟩
theorem lw_p20 : lw_okq (⟨"PolicyComparerModel", "next", "()I"⟩, 11) := ⟨⟨by decide +kernel, by decide +kernel⟩, List.mem_of_getElem? (i := 571) (by decide +kernel), List.mem_of_getElem? (i := 661) (by decide +kernel), List.mem_of_getElem? (i := 662) (by decide +kernel)⟩
theorem lw_p21 : lw_okq (⟨"PolicyComparerModel", "algorithm", "()I"⟩, 11) := ⟨⟨by decide +kernel, by decide +kernel⟩, List.mem_of_getElem? (i := 571) (by decide +kernel), List.mem_of_getElem? (i := 671) (by decide +kernel), List.mem_of_getElem? (i := 672) (by decide +kernel)⟩
theorem lw_p22 : lw_okq (⟨"PolicyComparerModel", "are", "(IIIII)Z"⟩, 11) := ⟨⟨by decide +kernel, by decide +kernel⟩, List.mem_of_getElem? (i := 571) (by decide +kernel), List.mem_of_getElem? (i := 675) (by decide +kernel), List.mem_of_getElem? (i := 676) (by decide +kernel)⟩
theorem lw_p23 : lw_okq (⟨"PolicyComparerModel", "edit", "()V"⟩, 11) := ⟨⟨by decide +kernel, by decide +kernel⟩, List.mem_of_getElem? (i := 571) (by decide +kernel), List.mem_of_getElem? (i := 695) (by decide +kernel), List.mem_of_getElem? (i := 696) (by decide +kernel)⟩
theorem lw_p24 : lw_okq (⟨"PolicyComparerModel", "copies", "(III)V"⟩, 11) := ⟨⟨by decide +kernel, by decide +kernel⟩, List.mem_of_getElem? (i := 571) (by decide +kernel), List.mem_of_getElem? (i := 699) (by decide +kernel), List.mem_of_getElem? (i := 700) (by decide +kernel)⟩
theorem lw_p25 : lw_okq (⟨"PolicyComparerModel", "isRule", "(II)Z"⟩, 11) := ⟨⟨by decide +kernel, by decide +kernel⟩, List.mem_of_getElem? (i := 571) (by decide +kernel), List.mem_of_getElem? (i := 707) (by decide +kernel), List.mem_of_getElem? (i := 708) (by decide +kernel)⟩
theorem lw_p26 : lw_okq (⟨"PolicyComparerModel", "removes", "(II)V"⟩, 11) := ⟨⟨by decide +kernel, by decide +kernel⟩, List.mem_of_getElem? (i := 571) (by decide +kernel), List.mem_of_getElem? (i := 711) (by decide +kernel), List.mem_of_getElem? (i := 712) (by decide +kernel)⟩
theorem lw_p27 : lw_okq (⟨"PolicyComparerModel", "decision", "(II)I"⟩, 11) := ⟨⟨by decide +kernel, by decide +kernel⟩, List.mem_of_getElem? (i := 571) (by decide +kernel), List.mem_of_getElem? (i := 758) (by decide +kernel), List.mem_of_getElem? (i := 759) (by decide +kernel)⟩
theorem lw_p28 : lw_okq (⟨"PolicyComparerModel", "rulesFor", "(II)I"⟩, 11) := ⟨⟨by decide +kernel, by decide +kernel⟩, List.mem_of_getElem? (i := 571) (by decide +kernel), List.mem_of_getElem? (i := 762) (by decide +kernel), List.mem_of_getElem? (i := 763) (by decide +kernel)⟩
theorem lw_p29 : lw_okq (⟨"PolicyComparerModel", "permits", "(I)I"⟩, 11) := ⟨⟨by decide +kernel, by decide +kernel⟩, List.mem_of_getElem? (i := 571) (by decide +kernel), List.mem_of_getElem? (i := 769) (by decide +kernel), List.mem_of_getElem? (i := 770) (by decide +kernel)⟩
theorem lw_p30 : lw_okq (⟨"PolicyComparerModel", "gains", "(I)Z"⟩, 11) := ⟨⟨by decide +kernel, by decide +kernel⟩, List.mem_of_getElem? (i := 571) (by decide +kernel), List.mem_of_getElem? (i := 791) (by decide +kernel), List.mem_of_getElem? (i := 792) (by decide +kernel)⟩
theorem lw_p31 : lw_okq (⟨"PolicyComparerModel", "loses", "(I)Z"⟩, 11) := ⟨⟨by decide +kernel, by decide +kernel⟩, List.mem_of_getElem? (i := 571) (by decide +kernel), List.mem_of_getElem? (i := 799) (by decide +kernel), List.mem_of_getElem? (i := 800) (by decide +kernel)⟩
def lw_privs_2 : List (MethodName × Nat) := [(⟨"PolicyComparerModel", "word", "(IIIIIII)Z"⟩, 11), (⟨"PolicyComparerModel", "is", "(II)Z"⟩, 11), (⟨"PolicyComparerModel", "rule", "(II)Z"⟩, 11), (⟨"PolicyComparerModel", "constraints", "(I)Z"⟩, 11), (⟨"PolicyComparerModel", "next", "()I"⟩, 11), (⟨"PolicyComparerModel", "algorithm", "()I"⟩, 11), (⟨"PolicyComparerModel", "are", "(IIIII)Z"⟩, 11), (⟨"PolicyComparerModel", "edit", "()V"⟩, 11), (⟨"PolicyComparerModel", "copies", "(III)V"⟩, 11), (⟨"PolicyComparerModel", "isRule", "(II)Z"⟩, 11), (⟨"PolicyComparerModel", "removes", "(II)V"⟩, 11), (⟨"PolicyComparerModel", "decision", "(II)I"⟩, 11), (⟨"PolicyComparerModel", "rulesFor", "(II)I"⟩, 11), (⟨"PolicyComparerModel", "permits", "(I)I"⟩, 11), (⟨"PolicyComparerModel", "gains", "(I)Z"⟩, 11), (⟨"PolicyComparerModel", "loses", "(I)Z"⟩, 11)]
theorem lw_r2 : ∀ q ∈ lw_privs_2, lw_okq q := List.forall_mem_cons.mpr ⟨lw_p16, List.forall_mem_cons.mpr ⟨lw_p17, List.forall_mem_cons.mpr ⟨lw_p18, List.forall_mem_cons.mpr ⟨lw_p19, List.forall_mem_cons.mpr ⟨lw_p20, List.forall_mem_cons.mpr ⟨lw_p21, List.forall_mem_cons.mpr ⟨lw_p22, List.forall_mem_cons.mpr ⟨lw_p23, List.forall_mem_cons.mpr ⟨lw_p24, List.forall_mem_cons.mpr ⟨lw_p25, List.forall_mem_cons.mpr ⟨lw_p26, List.forall_mem_cons.mpr ⟨lw_p27, List.forall_mem_cons.mpr ⟨lw_p28, List.forall_mem_cons.mpr ⟨lw_p29, List.forall_mem_cons.mpr ⟨lw_p30, List.forall_mem_cons.mpr ⟨lw_p31, fun _ h => absurd h List.not_mem_nil⟩⟩⟩⟩⟩⟩⟩⟩⟩⟩⟩⟩⟩⟩⟩⟩
theorem lw_p32 : lw_okq (⟨"PolicyComparerModel", "looks", "(I)V"⟩, 11) := ⟨⟨by decide +kernel, by decide +kernel⟩, List.mem_of_getElem? (i := 571) (by decide +kernel), List.mem_of_getElem? (i := 828) (by decide +kernel), List.mem_of_getElem? (i := 829) (by decide +kernel)⟩
theorem lw_p33 : lw_okq (⟨"PolicyComparerModel", "shows", "(III)I"⟩, 11) := ⟨⟨by decide +kernel, by decide +kernel⟩, List.mem_of_getElem? (i := 571) (by decide +kernel), List.mem_of_getElem? (i := 832) (by decide +kernel), List.mem_of_getElem? (i := 833) (by decide +kernel)⟩
theorem lw_p34 : lw_okq (⟨"PolicyComparerModel", "isWithoutGain", "(I)Z"⟩, 11) := ⟨⟨by decide +kernel, by decide +kernel⟩, List.mem_of_getElem? (i := 571) (by decide +kernel), List.mem_of_getElem? (i := 849) (by decide +kernel), List.mem_of_getElem? (i := 850) (by decide +kernel)⟩
def lw_privs_3 : List (MethodName × Nat) := [(⟨"PolicyComparerModel", "looks", "(I)V"⟩, 11), (⟨"PolicyComparerModel", "shows", "(III)I"⟩, 11), (⟨"PolicyComparerModel", "isWithoutGain", "(I)Z"⟩, 11)]
theorem lw_r3 : ∀ q ∈ lw_privs_3, lw_okq q := List.forall_mem_cons.mpr ⟨lw_p32, List.forall_mem_cons.mpr ⟨lw_p33, List.forall_mem_cons.mpr ⟨lw_p34, fun _ h => absurd h List.not_mem_nil⟩⟩⟩
def lw_privs : List (MethodName × Nat) := lw_privs_1 ++ (lw_privs_2 ++ (lw_privs_3))
def lw_tbl : List Cond := k2_sels lw_privs ++ tables_1
theorem lw_privs_ok : ∀ q ∈ lw_privs, lw_okq q := by
  show ∀ q ∈ lw_privs_1 ++ (lw_privs_2 ++ (lw_privs_3)), lw_okq q
  exact List.forall_mem_append.mpr ⟨lw_r1, List.forall_mem_append.mpr ⟨lw_r2, lw_r3⟩⟩
end
section
def RX0 : String := "PolicyComparer$History"
def TX0 : u_T := fun k => match k with
  | 0 => ("PolicyComparer$History", "numbers", "[I", true)
  | 1 => ("PolicyComparer$History", "cells", "[I", true)
  | _ => ("PolicyComparer$History", "size", "I", false)
def tyX0 : Nat → FieldType := fun k => match k with
  | 0 => .array .int
  | 1 => .array .int
  | _ => .int
abbrev wsX00 : List Cond := u_ws RX0 TX0 3
theorem nmX0 : ∀ a, a < 3 → ∀ b, b < 3 → a ≠ b → (TX0 a).2.1 ≠ (TX0 b).2.1 := by decide +kernel
theorem tyX0_ok : ∀ k, k < 3 → parseFieldDescriptor (TX0 k).2.2.1 = some (tyX0 k) := by decide +kernel
abbrev cX0_init : ByteArray := prog_2_method_1_code
def yX0_init : MethodName := ⟨RX0, "<init>", "()V"⟩
abbrev cX0_size : ByteArray := prog_2_method_2_code
def yX0_size : MethodName := ⟨RX0, "size", "()I"⟩
abbrev cX0_forgetAll : ByteArray := prog_2_method_3_code
def yX0_forgetAll : MethodName := ⟨RX0, "forgetAll", "()V"⟩
abbrev cX0_remember : ByteArray := prog_2_method_4_code
def yX0_remember : MethodName := ⟨RX0, "remember", "(ILPolicyComparer$Policy;)V"⟩
abbrev cX0_latestNumber : ByteArray := prog_2_method_5_code
def yX0_latestNumber : MethodName := ⟨RX0, "latestNumber", "()I"⟩
abbrev cX0_recallInto : ByteArray := prog_2_method_6_code
def yX0_recallInto : MethodName := ⟨RX0, "recallInto", "(LPolicyComparer$Policy;)V"⟩
abbrev cX0_forgetOldest : ByteArray := prog_2_method_7_code
def yX0_forgetOldest : MethodName := ⟨RX0, "forgetOldest", "()V"⟩
def RX1 : String := "PolicyComparer$Policy"
def TX1 : u_T := fun k => match k with
  | 0 => ("PolicyComparer$Policy", "rows", "[I", true)
  | 1 => ("PolicyComparer$Policy", "count", "I", false)
  | _ => ("PolicyComparer$Policy", "algorithm", "I", false)
def tyX1 : Nat → FieldType := fun k => match k with
  | 0 => .array .int
  | 1 => .int
  | _ => .int
abbrev wsX10 : List Cond := u_ws RX1 TX1 3
theorem nmX1 : ∀ a, a < 3 → ∀ b, b < 3 → a ≠ b → (TX1 a).2.1 ≠ (TX1 b).2.1 := by decide +kernel
theorem tyX1_ok : ∀ k, k < 3 → parseFieldDescriptor (TX1 k).2.2.1 = some (tyX1 k) := by decide +kernel
abbrev cX1_init : ByteArray := prog_3_method_1_code
def yX1_init : MethodName := ⟨RX1, "<init>", "()V"⟩
abbrev cX1_size : ByteArray := prog_3_method_2_code
def yX1_size : MethodName := ⟨RX1, "size", "()I"⟩
abbrev cX1_algorithm : ByteArray := prog_3_method_3_code
def yX1_algorithm : MethodName := ⟨RX1, "algorithm", "()I"⟩
abbrev cX1_use : ByteArray := prog_3_method_4_code
def yX1_use : MethodName := ⟨RX1, "use", "(I)V"⟩
abbrev cX1_empty : ByteArray := prog_3_method_5_code
def yX1_empty : MethodName := ⟨RX1, "empty", "()V"⟩
abbrev cX1_copyFrom : ByteArray := prog_3_method_6_code
def yX1_copyFrom : MethodName := ⟨RX1, "copyFrom", "(LPolicyComparer$Policy;)V"⟩
abbrev cX1_saveInto : ByteArray := prog_3_method_7_code
def yX1_saveInto : MethodName := ⟨RX1, "saveInto", "([II)V"⟩
abbrev cX1_restoreFrom : ByteArray := prog_3_method_8_code
def yX1_restoreFrom : MethodName := ⟨RX1, "restoreFrom", "([II)V"⟩
abbrev cX1_insertRule : ByteArray := prog_3_method_9_code
def yX1_insertRule : MethodName := ⟨RX1, "insertRule", "(II)V"⟩
abbrev cX1_dropRule : ByteArray := prog_3_method_10_code
def yX1_dropRule : MethodName := ⟨RX1, "dropRule", "(I)V"⟩
abbrev cX1_shiftRule : ByteArray := prog_3_method_11_code
def yX1_shiftRule : MethodName := ⟨RX1, "shiftRule", "(II)V"⟩
abbrev cX1_restrict : ByteArray := prog_3_method_12_code
def yX1_restrict : MethodName := ⟨RX1, "restrict", "(III)V"⟩
abbrev cX1_valuesAt : ByteArray := prog_3_method_13_code
def yX1_valuesAt : MethodName := ⟨RX1, "valuesAt", "(II)I"⟩
abbrev cX1_turnEffect : ByteArray := prog_3_method_14_code
def yX1_turnEffect : MethodName := ⟨RX1, "turnEffect", "(I)V"⟩
abbrev cX1_effectAt : ByteArray := prog_3_method_15_code
def yX1_effectAt : MethodName := ⟨RX1, "effectAt", "(I)I"⟩
abbrev cX1_allRules : ByteArray := prog_3_method_16_code
def yX1_allRules : MethodName := ⟨RX1, "allRules", "()I"⟩
abbrev cX1_applying : ByteArray := prog_3_method_17_code
def yX1_applying : MethodName := ⟨RX1, "applying", "(I)I"⟩
abbrev cX1_decisionOn : ByteArray := prog_3_method_18_code
def yX1_decisionOn : MethodName := ⟨RX1, "decisionOn", "(I)I"⟩
abbrev cX1_decisionAmong : ByteArray := prog_3_method_19_code
def yX1_decisionAmong : MethodName := ⟨RX1, "decisionAmong", "(I)I"⟩
abbrev cX1_majority : ByteArray := prog_3_method_20_code
def yX1_majority : MethodName := ⟨RX1, "majority", "(II)I"⟩
abbrev cX1_withBitInserted : ByteArray := prog_3_method_21_code
def yX1_withBitInserted : MethodName := ⟨RX1, "withBitInserted", "(III)I"⟩
abbrev cX1_withBitDropped : ByteArray := prog_3_method_22_code
def yX1_withBitDropped : MethodName := ⟨RX1, "withBitDropped", "(II)I"⟩
def RX2 : String := "PolicyComparer$PolicyText"
def TX2 : u_T := fun k => match k with
  | 0 => ("PolicyComparer$PolicyText", "characters", "[C", true)
  | 1 => ("PolicyComparer$PolicyText", "oldDraft", "LPolicyComparer$Policy;", true)
  | 2 => ("PolicyComparer$PolicyText", "newDraft", "LPolicyComparer$Policy;", true)
  | 3 => ("PolicyComparer$PolicyText", "selected", "LPolicyComparer$Policy;", false)
  | 4 => ("PolicyComparer$PolicyText", "length", "I", false)
  | _ => ("PolicyComparer$PolicyText", "position", "I", false)
def tyX2 : Nat → FieldType := fun k => match k with
  | 0 => .array .char
  | 1 => .object "PolicyComparer$Policy"
  | 2 => .object "PolicyComparer$Policy"
  | 3 => .object "PolicyComparer$Policy"
  | 4 => .int
  | _ => .int
abbrev wsX20 : List Cond := u_ws RX2 TX2 6
theorem nmX2 : ∀ a, a < 6 → ∀ b, b < 6 → a ≠ b → (TX2 a).2.1 ≠ (TX2 b).2.1 := by decide +kernel
theorem tyX2_ok : ∀ k, k < 6 → parseFieldDescriptor (TX2 k).2.2.1 = some (tyX2 k) := by decide +kernel
abbrev cX2_init : ByteArray := prog_4_method_1_code
def yX2_init : MethodName := ⟨RX2, "<init>", "()V"⟩
abbrev cX2_length : ByteArray := prog_4_method_2_code
def yX2_length : MethodName := ⟨RX2, "length", "()I"⟩
abbrev cX2_oldDraft : ByteArray := prog_4_method_3_code
def yX2_oldDraft : MethodName := ⟨RX2, "oldDraft", "()LPolicyComparer$Policy;"⟩
abbrev cX2_newDraft : ByteArray := prog_4_method_4_code
def yX2_newDraft : MethodName := ⟨RX2, "newDraft", "()LPolicyComparer$Policy;"⟩
abbrev cX2_add : ByteArray := prog_4_method_5_code
def yX2_add : MethodName := ⟨RX2, "add", "(C)Z"⟩
abbrev cX2_empty : ByteArray := prog_4_method_6_code
def yX2_empty : MethodName := ⟨RX2, "empty", "()V"⟩
abbrev cX2_firstMalformed : ByteArray := prog_4_method_7_code
def yX2_firstMalformed : MethodName := ⟨RX2, "firstMalformed", "()I"⟩
abbrev cX2_readStatement : ByteArray := prog_4_method_8_code
def yX2_readStatement : MethodName := ⟨RX2, "readStatement", "()Z"⟩
abbrev cX2_readAlgorithm : ByteArray := prog_4_method_9_code
def yX2_readAlgorithm : MethodName := ⟨RX2, "readAlgorithm", "()Z"⟩
abbrev cX2_readRule : ByteArray := prog_4_method_10_code
def yX2_readRule : MethodName := ⟨RX2, "readRule", "(I)Z"⟩
abbrev cX2_readAttribute : ByteArray := prog_4_method_11_code
def yX2_readAttribute : MethodName := ⟨RX2, "readAttribute", "()I"⟩
abbrev cX2_readValues : ByteArray := prog_4_method_12_code
def yX2_readValues : MethodName := ⟨RX2, "readValues", "(I)I"⟩
abbrev cX2_acceptCharacter : ByteArray := prog_4_method_13_code
def yX2_acceptCharacter : MethodName := ⟨RX2, "acceptCharacter", "(C)Z"⟩
abbrev cX2_accept : ByteArray := prog_4_method_14_code
def yX2_accept : MethodName := ⟨RX2, "accept", "(Ljava/lang/String;)Z"⟩
def RX3 : String := "PolicyComparer$RuleSets"
def TX3 : u_T := fun k => match k with
  | 0 => ("PolicyComparer$RuleSets", "sets", "[I", true)
  | 1 => ("PolicyComparer$RuleSets", "held", "[Z", true)
  | _ => ("PolicyComparer$RuleSets", "count", "I", false)
def tyX3 : Nat → FieldType := fun k => match k with
  | 0 => .array .int
  | 1 => .array .boolean
  | _ => .int
abbrev wsX30 : List Cond := u_ws RX3 TX3 3
theorem nmX3 : ∀ a, a < 3 → ∀ b, b < 3 → a ≠ b → (TX3 a).2.1 ≠ (TX3 b).2.1 := by decide +kernel
theorem tyX3_ok : ∀ k, k < 3 → parseFieldDescriptor (TX3 k).2.2.1 = some (tyX3 k) := by decide +kernel
abbrev cX3_init : ByteArray := prog_5_method_1_code
def yX3_init : MethodName := ⟨RX3, "<init>", "()V"⟩
abbrev cX3_empty : ByteArray := prog_5_method_2_code
def yX3_empty : MethodName := ⟨RX3, "empty", "()V"⟩
abbrev cX3_add : ByteArray := prog_5_method_3_code
def yX3_add : MethodName := ⟨RX3, "add", "(I)V"⟩
abbrev cX3_anyGranted : ByteArray := prog_5_method_4_code
def yX3_anyGranted : MethodName := ⟨RX3, "anyGranted", "(LPolicyComparer$Policy;I)Z"⟩
abbrev cX3_sameDecisions : ByteArray := prog_5_method_5_code
def yX3_sameDecisions : MethodName := ⟨RX3, "sameDecisions", "(LPolicyComparer$Policy;II)Z"⟩
def RX4 : String := "PolicyComparer"
def TX4 : u_T := fun k => match k with
  | 0 => ("PolicyComparer", "oldPolicy", "LPolicyComparer$Policy;", true)
  | 1 => ("PolicyComparer", "newPolicy", "LPolicyComparer$Policy;", true)
  | 2 => ("PolicyComparer", "text", "LPolicyComparer$PolicyText;", true)
  | 3 => ("PolicyComparer", "history", "LPolicyComparer$History;", true)
  | _ => ("PolicyComparer", "ruleSets", "LPolicyComparer$RuleSets;", true)
def tyX4 : Nat → FieldType := fun k => match k with
  | 0 => .object "PolicyComparer$Policy"
  | 1 => .object "PolicyComparer$Policy"
  | 2 => .object "PolicyComparer$PolicyText"
  | 3 => .object "PolicyComparer$History"
  | _ => .object "PolicyComparer$RuleSets"
abbrev wsX40 : List Cond := u_ws RX4 TX4 5
theorem nmX4 : ∀ a, a < 5 → ∀ b, b < 5 → a ≠ b → (TX4 a).2.1 ≠ (TX4 b).2.1 := by decide +kernel
theorem tyX4_ok : ∀ k, k < 5 → parseFieldDescriptor (TX4 k).2.2.1 = some (tyX4 k) := by decide +kernel
abbrev cX4_init : ByteArray := prog_1_method_1_code
def yX4_init : MethodName := ⟨RX4, "<init>", "()V"⟩
abbrev cX4_append : ByteArray := prog_1_method_2_code
def yX4_append : MethodName := ⟨RX4, "append", "(I)I"⟩
abbrev cX4_clearText : ByteArray := prog_1_method_3_code
def yX4_clearText : MethodName := ⟨RX4, "clearText", "()I"⟩
abbrev cX4_syntaxError : ByteArray := prog_1_method_4_code
def yX4_syntaxError : MethodName := ⟨RX4, "syntaxError", "()I"⟩
abbrev cX4_load : ByteArray := prog_1_method_5_code
def yX4_load : MethodName := ⟨RX4, "load", "()I"⟩
abbrev cX4_takeDrafts : ByteArray := prog_1_method_6_code
def yX4_takeDrafts : MethodName := ⟨RX4, "takeDrafts", "()V"⟩
abbrev cX4_addRule : ByteArray := prog_1_method_7_code
def yX4_addRule : MethodName := ⟨RX4, "addRule", "(III)I"⟩
abbrev cX4_removeRule : ByteArray := prog_1_method_8_code
def yX4_removeRule : MethodName := ⟨RX4, "removeRule", "(II)I"⟩
abbrev cX4_moveRule : ByteArray := prog_1_method_9_code
def yX4_moveRule : MethodName := ⟨RX4, "moveRule", "(III)I"⟩
abbrev cX4_setAlgorithm : ByteArray := prog_1_method_10_code
def yX4_setAlgorithm : MethodName := ⟨RX4, "setAlgorithm", "(II)I"⟩
abbrev cX4_setTarget : ByteArray := prog_1_method_11_code
def yX4_setTarget : MethodName := ⟨RX4, "setTarget", "(IIII)I"⟩
abbrev cX4_flipEffect : ByteArray := prog_1_method_12_code
def yX4_flipEffect : MethodName := ⟨RX4, "flipEffect", "(II)I"⟩
abbrev cX4_copyOldToNew : ByteArray := prog_1_method_13_code
def yX4_copyOldToNew : MethodName := ⟨RX4, "copyOldToNew", "()I"⟩
abbrev cX4_undo : ByteArray := prog_1_method_14_code
def yX4_undo : MethodName := ⟨RX4, "undo", "()I"⟩
abbrev cX4_ruleCount : ByteArray := prog_1_method_15_code
def yX4_ruleCount : MethodName := ⟨RX4, "ruleCount", "(I)I"⟩
abbrev cX4_effectOf : ByteArray := prog_1_method_16_code
def yX4_effectOf : MethodName := ⟨RX4, "effectOf", "(II)I"⟩
abbrev cX4_targetOf : ByteArray := prog_1_method_17_code
def yX4_targetOf : MethodName := ⟨RX4, "targetOf", "(III)I"⟩
abbrev cX4_algorithmOf : ByteArray := prog_1_method_18_code
def yX4_algorithmOf : MethodName := ⟨RX4, "algorithmOf", "(I)I"⟩
abbrev cX4_decide : ByteArray := prog_1_method_19_code
def yX4_decide : MethodName := ⟨RX4, "decide", "(II)I"⟩
abbrev cX4_decisionCount : ByteArray := prog_1_method_20_code
def yX4_decisionCount : MethodName := ⟨RX4, "decisionCount", "(II)I"⟩
abbrev cX4_applicableRules : ByteArray := prog_1_method_21_code
def yX4_applicableRules : MethodName := ⟨RX4, "applicableRules", "(II)I"⟩
abbrev cX4_requestsDecided : ByteArray := prog_1_method_22_code
def yX4_requestsDecided : MethodName := ⟨RX4, "requestsDecided", "(LPolicyComparer$Policy;I)I"⟩
abbrev cX4_gainCount : ByteArray := prog_1_method_23_code
def yX4_gainCount : MethodName := ⟨RX4, "gainCount", "()I"⟩
abbrev cX4_lossCount : ByteArray := prog_1_method_24_code
def yX4_lossCount : MethodName := ⟨RX4, "lossCount", "()I"⟩
abbrev cX4_gainCountOf : ByteArray := prog_1_method_25_code
def yX4_gainCountOf : MethodName := ⟨RX4, "gainCountOf", "(II)I"⟩
abbrev cX4_nextGain : ByteArray := prog_1_method_26_code
def yX4_nextGain : MethodName := ⟨RX4, "nextGain", "(I)I"⟩
abbrev cX4_nextLoss : ByteArray := prog_1_method_27_code
def yX4_nextLoss : MethodName := ⟨RX4, "nextLoss", "(I)I"⟩
abbrev cX4_transitionCount : ByteArray := prog_1_method_28_code
def yX4_transitionCount : MethodName := ⟨RX4, "transitionCount", "(II)I"⟩
abbrev cX4_grantedShareBits : ByteArray := prog_1_method_29_code
def yX4_grantedShareBits : MethodName := ⟨RX4, "grantedShareBits", "(I)I"⟩
abbrev cX4_isGrantedOnlyBy : ByteArray := prog_1_method_30_code
def yX4_isGrantedOnlyBy : MethodName := ⟨RX4, "isGrantedOnlyBy", "(LPolicyComparer$Policy;LPolicyComparer$Policy;I)Z"⟩
abbrev cX4_countGranted : ByteArray := prog_1_method_31_code
def yX4_countGranted : MethodName := ⟨RX4, "countGranted", "(LPolicyComparer$Policy;LPolicyComparer$Policy;)I"⟩
abbrev cX4_nextGranted : ByteArray := prog_1_method_32_code
def yX4_nextGranted : MethodName := ⟨RX4, "nextGranted", "(LPolicyComparer$Policy;LPolicyComparer$Policy;I)I"⟩
abbrev cX4_shareBits : ByteArray := prog_1_method_33_code
def yX4_shareBits : MethodName := ⟨RX4, "shareBits", "(I)I"⟩
abbrev cX4_isRedundant : ByteArray := prog_1_method_34_code
def yX4_isRedundant : MethodName := ⟨RX4, "isRedundant", "(II)I"⟩
abbrev cX4_witness : ByteArray := prog_1_method_35_code
def yX4_witness : MethodName := ⟨RX4, "witness", "(II)I"⟩
abbrev cX4_irredundantCore : ByteArray := prog_1_method_36_code
def yX4_irredundantCore : MethodName := ⟨RX4, "irredundantCore", "(I)I"⟩
abbrev cX4_leastRemoval : ByteArray := prog_1_method_37_code
def yX4_leastRemoval : MethodName := ⟨RX4, "leastRemoval", "()I"⟩
abbrev cX4_firstChangeWithout : ByteArray := prog_1_method_38_code
def yX4_firstChangeWithout : MethodName := ⟨RX4, "firstChangeWithout", "(LPolicyComparer$Policy;I)I"⟩
abbrev cX4_lowestRedundant : ByteArray := prog_1_method_39_code
def yX4_lowestRedundant : MethodName := ⟨RX4, "lowestRedundant", "(LPolicyComparer$Policy;I)I"⟩
abbrev cX4_historySize : ByteArray := prog_1_method_40_code
def yX4_historySize : MethodName := ⟨RX4, "historySize", "()I"⟩
abbrev cX4_isPolicy : ByteArray := prog_1_method_41_code
def yX4_isPolicy : MethodName := ⟨RX4, "isPolicy", "(I)Z"⟩
abbrev cX4_isEffect : ByteArray := prog_1_method_42_code
def yX4_isEffect : MethodName := ⟨RX4, "isEffect", "(I)Z"⟩
abbrev cX4_isAttribute : ByteArray := prog_1_method_43_code
def yX4_isAttribute : MethodName := ⟨RX4, "isAttribute", "(I)Z"⟩
abbrev cX4_isRequest : ByteArray := prog_1_method_44_code
def yX4_isRequest : MethodName := ⟨RX4, "isRequest", "(I)Z"⟩
abbrev cX4_isDecision : ByteArray := prog_1_method_45_code
def yX4_isDecision : MethodName := ⟨RX4, "isDecision", "(I)Z"⟩
abbrev cX4_isValueSet : ByteArray := prog_1_method_46_code
def yX4_isValueSet : MethodName := ⟨RX4, "isValueSet", "(II)Z"⟩
abbrev cX4_isRule : ByteArray := prog_1_method_47_code
def yX4_isRule : MethodName := ⟨RX4, "isRule", "(II)Z"⟩
abbrev cX4_policyNumbered : ByteArray := prog_1_method_48_code
def yX4_policyNumbered : MethodName := ⟨RX4, "policyNumbered", "(I)LPolicyComparer$Policy;"⟩
abbrev cX4_valueIn : ByteArray := prog_1_method_49_code
def yX4_valueIn : MethodName := ⟨RX4, "valueIn", "(II)I"⟩
def RX5 : String := "PolicyComparerModel"
def TX5 : u_T := fun k => match k with
  | 0 => ("PolicyComparerModel", "length", "I", false)
  | 1 => ("PolicyComparerModel", "text", "[I", true)
  | 2 => ("PolicyComparerModel", "now", "[I", true)
  | 3 => ("PolicyComparerModel", "read", "[I", true)
  | 4 => ("PolicyComparerModel", "history", "[I", true)
  | 5 => ("PolicyComparerModel", "edits", "I", false)
  | 6 => ("PolicyComparerModel", "applies", "[I", true)
  | 7 => ("PolicyComparerModel", "others", "[I", true)
  | 8 => ("PolicyComparerModel", "at", "I", false)
  | 9 => ("PolicyComparerModel", "selected", "I", false)
  | _ => ("PolicyComparerModel", "moved", "[I", true)
def tyX5 : Nat → FieldType := fun k => match k with
  | 0 => .int
  | 1 => .array .int
  | 2 => .array .int
  | 3 => .array .int
  | 4 => .array .int
  | 5 => .int
  | 6 => .array .int
  | 7 => .array .int
  | 8 => .int
  | 9 => .int
  | _ => .array .int
abbrev wsX50 : List Cond := u_ws RX5 TX5 11
theorem nmX5 : ∀ a, a < 11 → ∀ b, b < 11 → a ≠ b → (TX5 a).2.1 ≠ (TX5 b).2.1 := by decide +kernel
theorem tyX5_ok : ∀ k, k < 11 → parseFieldDescriptor (TX5 k).2.2.1 = some (tyX5 k) := by decide +kernel
abbrev cX5_init : ByteArray := prog_7_method_1_code
def yX5_init : MethodName := ⟨RX5, "<init>", "()V"⟩
abbrev cX5_sets : ByteArray := prog_7_method_2_code
def yX5_sets : MethodName := ⟨RX5, "sets", "(IIIIIII)V"⟩
abbrev cX5_in : ByteArray := prog_7_method_3_code
def yX5_in : MethodName := ⟨RX5, "in", "(III)Z"⟩
abbrev cX5_has : ByteArray := prog_7_method_4_code
def yX5_has : MethodName := ⟨RX5, "has", "(II)Z"⟩
abbrev cX5_valuesOf : ByteArray := prog_7_method_5_code
def yX5_valuesOf : MethodName := ⟨RX5, "valuesOf", "(I)I"⟩
abbrev cX5_append : ByteArray := prog_7_method_6_code
def yX5_append : MethodName := ⟨RX5, "append", "(I)I"⟩
abbrev cX5_clearText : ByteArray := prog_7_method_7_code
def yX5_clearText : MethodName := ⟨RX5, "clearText", "()I"⟩
abbrev cX5_next : ByteArray := prog_7_method_8_code
def yX5_next : MethodName := ⟨RX5, "next", "()I"⟩
abbrev cX5_is : ByteArray := prog_7_method_9_code
def yX5_is : MethodName := ⟨RX5, "is", "(II)Z"⟩
abbrev cX5_are : ByteArray := prog_7_method_10_code
def yX5_are : MethodName := ⟨RX5, "are", "(IIIII)Z"⟩
abbrev cX5_word : ByteArray := prog_7_method_11_code
def yX5_word : MethodName := ⟨RX5, "word", "(IIIIIII)Z"⟩
abbrev cX5_clears : ByteArray := prog_7_method_12_code
def yX5_clears : MethodName := ⟨RX5, "clears", "()V"⟩
abbrev cX5_takes : ByteArray := prog_7_method_13_code
def yX5_takes : MethodName := ⟨RX5, "takes", "()V"⟩
abbrev cX5_attributeOf : ByteArray := prog_7_method_14_code
def yX5_attributeOf : MethodName := ⟨RX5, "attributeOf", "(I)I"⟩
abbrev cX5_constraints : ByteArray := prog_7_method_15_code
def yX5_constraints : MethodName := ⟨RX5, "constraints", "(I)Z"⟩
abbrev cX5_rule : ByteArray := prog_7_method_16_code
def yX5_rule : MethodName := ⟨RX5, "rule", "(II)Z"⟩
abbrev cX5_algorithm : ByteArray := prog_7_method_17_code
def yX5_algorithm : MethodName := ⟨RX5, "algorithm", "()I"⟩
abbrev cX5_statement : ByteArray := prog_7_method_18_code
def yX5_statement : MethodName := ⟨RX5, "statement", "()Z"⟩
abbrev cX5_syntaxError : ByteArray := prog_7_method_19_code
def yX5_syntaxError : MethodName := ⟨RX5, "syntaxError", "()I"⟩
abbrev cX5_load : ByteArray := prog_7_method_20_code
def yX5_load : MethodName := ⟨RX5, "load", "()I"⟩
abbrev cX5_edit : ByteArray := prog_7_method_21_code
def yX5_edit : MethodName := ⟨RX5, "edit", "()V"⟩
abbrev cX5_undo : ByteArray := prog_7_method_22_code
def yX5_undo : MethodName := ⟨RX5, "undo", "()I"⟩
abbrev cX5_isPolicy : ByteArray := prog_7_method_23_code
def yX5_isPolicy : MethodName := ⟨RX5, "isPolicy", "(I)Z"⟩
abbrev cX5_isRule : ByteArray := prog_7_method_24_code
def yX5_isRule : MethodName := ⟨RX5, "isRule", "(II)Z"⟩
abbrev cX5_copies : ByteArray := prog_7_method_25_code
def yX5_copies : MethodName := ⟨RX5, "copies", "(III)V"⟩
abbrev cX5_addRule : ByteArray := prog_7_method_26_code
def yX5_addRule : MethodName := ⟨RX5, "addRule", "(III)I"⟩
abbrev cX5_removes : ByteArray := prog_7_method_27_code
def yX5_removes : MethodName := ⟨RX5, "removes", "(II)V"⟩
abbrev cX5_removeRule : ByteArray := prog_7_method_28_code
def yX5_removeRule : MethodName := ⟨RX5, "removeRule", "(II)I"⟩
abbrev cX5_moveRule : ByteArray := prog_7_method_29_code
def yX5_moveRule : MethodName := ⟨RX5, "moveRule", "(III)I"⟩
abbrev cX5_setAlgorithm : ByteArray := prog_7_method_30_code
def yX5_setAlgorithm : MethodName := ⟨RX5, "setAlgorithm", "(II)I"⟩
abbrev cX5_setTarget : ByteArray := prog_7_method_31_code
def yX5_setTarget : MethodName := ⟨RX5, "setTarget", "(IIII)I"⟩
abbrev cX5_flipEffect : ByteArray := prog_7_method_32_code
def yX5_flipEffect : MethodName := ⟨RX5, "flipEffect", "(II)I"⟩
abbrev cX5_copyOldToNew : ByteArray := prog_7_method_33_code
def yX5_copyOldToNew : MethodName := ⟨RX5, "copyOldToNew", "()I"⟩
abbrev cX5_ruleCount : ByteArray := prog_7_method_34_code
def yX5_ruleCount : MethodName := ⟨RX5, "ruleCount", "(I)I"⟩
abbrev cX5_effectOf : ByteArray := prog_7_method_35_code
def yX5_effectOf : MethodName := ⟨RX5, "effectOf", "(II)I"⟩
abbrev cX5_targetOf : ByteArray := prog_7_method_36_code
def yX5_targetOf : MethodName := ⟨RX5, "targetOf", "(III)I"⟩
abbrev cX5_algorithmOf : ByteArray := prog_7_method_37_code
def yX5_algorithmOf : MethodName := ⟨RX5, "algorithmOf", "(I)I"⟩
abbrev cX5_partOf : ByteArray := prog_7_method_38_code
def yX5_partOf : MethodName := ⟨RX5, "partOf", "(II)I"⟩
abbrev cX5_rulesFor : ByteArray := prog_7_method_39_code
def yX5_rulesFor : MethodName := ⟨RX5, "rulesFor", "(II)I"⟩
abbrev cX5_bits : ByteArray := prog_7_method_40_code
def yX5_bits : MethodName := ⟨RX5, "bits", "(I)I"⟩
abbrev cX5_permits : ByteArray := prog_7_method_41_code
def yX5_permits : MethodName := ⟨RX5, "permits", "(I)I"⟩
abbrev cX5_decided : ByteArray := prog_7_method_42_code
def yX5_decided : MethodName := ⟨RX5, "decided", "(III)I"⟩
abbrev cX5_decision : ByteArray := prog_7_method_43_code
def yX5_decision : MethodName := ⟨RX5, "decision", "(II)I"⟩
abbrev cX5_isRequest : ByteArray := prog_7_method_44_code
def yX5_isRequest : MethodName := ⟨RX5, "isRequest", "(I)Z"⟩
abbrev cX5_decide : ByteArray := prog_7_method_45_code
def yX5_decide : MethodName := ⟨RX5, "decide", "(II)I"⟩
abbrev cX5_decisionCount : ByteArray := prog_7_method_46_code
def yX5_decisionCount : MethodName := ⟨RX5, "decisionCount", "(II)I"⟩
abbrev cX5_applicableRules : ByteArray := prog_7_method_47_code
def yX5_applicableRules : MethodName := ⟨RX5, "applicableRules", "(II)I"⟩
abbrev cX5_gains : ByteArray := prog_7_method_48_code
def yX5_gains : MethodName := ⟨RX5, "gains", "(I)Z"⟩
abbrev cX5_loses : ByteArray := prog_7_method_49_code
def yX5_loses : MethodName := ⟨RX5, "loses", "(I)Z"⟩
abbrev cX5_gainCount : ByteArray := prog_7_method_50_code
def yX5_gainCount : MethodName := ⟨RX5, "gainCount", "()I"⟩
abbrev cX5_lossCount : ByteArray := prog_7_method_51_code
def yX5_lossCount : MethodName := ⟨RX5, "lossCount", "()I"⟩
abbrev cX5_gainCountOf : ByteArray := prog_7_method_52_code
def yX5_gainCountOf : MethodName := ⟨RX5, "gainCountOf", "(II)I"⟩
abbrev cX5_nextGain : ByteArray := prog_7_method_53_code
def yX5_nextGain : MethodName := ⟨RX5, "nextGain", "(I)I"⟩
abbrev cX5_nextLoss : ByteArray := prog_7_method_54_code
def yX5_nextLoss : MethodName := ⟨RX5, "nextLoss", "(I)I"⟩
abbrev cX5_transitionCount : ByteArray := prog_7_method_55_code
def yX5_transitionCount : MethodName := ⟨RX5, "transitionCount", "(II)I"⟩
abbrev cX5_grantedShareBits : ByteArray := prog_7_method_56_code
def yX5_grantedShareBits : MethodName := ⟨RX5, "grantedShareBits", "(I)I"⟩
abbrev cX5_looks : ByteArray := prog_7_method_57_code
def yX5_looks : MethodName := ⟨RX5, "looks", "(I)V"⟩
abbrev cX5_shows : ByteArray := prog_7_method_58_code
def yX5_shows : MethodName := ⟨RX5, "shows", "(III)I"⟩
abbrev cX5_witness : ByteArray := prog_7_method_59_code
def yX5_witness : MethodName := ⟨RX5, "witness", "(II)I"⟩
abbrev cX5_isRedundant : ByteArray := prog_7_method_60_code
def yX5_isRedundant : MethodName := ⟨RX5, "isRedundant", "(II)I"⟩
abbrev cX5_irredundantCore : ByteArray := prog_7_method_61_code
def yX5_irredundantCore : MethodName := ⟨RX5, "irredundantCore", "(I)I"⟩
abbrev cX5_isWithoutGain : ByteArray := prog_7_method_62_code
def yX5_isWithoutGain : MethodName := ⟨RX5, "isWithoutGain", "(I)Z"⟩
abbrev cX5_leastRemoval : ByteArray := prog_7_method_63_code
def yX5_leastRemoval : MethodName := ⟨RX5, "leastRemoval", "()I"⟩
abbrev cX5_historySize : ByteArray := prog_7_method_64_code
def yX5_historySize : MethodName := ⟨RX5, "historySize", "()I"⟩
def RJ6 : String := "java/lang/Integer"
def TJ6 : u_T := fun k => match k with
  | _ => ("", "", "", false)
def tyJ6 : Nat → FieldType := fun k => match k with
  | _ => .int
abbrev cJ6_lowestOneBit_0f7a4 : ByteArray := prog_8_method_46_code
def yJ6_lowestOneBit_0f7a4 : MethodName := ⟨RJ6, "lowestOneBit", "(I)I"⟩
abbrev cJ6_numberOfLeadingZeros_0f7a4 : ByteArray := prog_8_method_47_code
def yJ6_numberOfLeadingZeros_0f7a4 : MethodName := ⟨RJ6, "numberOfLeadingZeros", "(I)I"⟩
abbrev cJ6_bitCount_0f7a4 : ByteArray := prog_8_method_49_code
def yJ6_bitCount_0f7a4 : MethodName := ⟨RJ6, "bitCount", "(I)I"⟩
def RJ0 : String := "java/lang/String"
def TJ0 : u_T := fun k => match k with
  | _ => ("", "", "", false)
def tyJ0 : Nat → FieldType := fun k => match k with
  | _ => .int
abbrev cJ0_length_8abf5 : ByteArray := prog_9_method_54_code
def yJ0_length_8abf5 : MethodName := ⟨RJ0, "length", "()I"⟩
abbrev cJ0_charAt_5068e : ByteArray := prog_9_method_56_code
def yJ0_charAt_5068e : MethodName := ⟨RJ0, "charAt", "(I)C"⟩
abbrev cJ0_coder_7d493 : ByteArray := prog_9_method_152_code
def yJ0_coder_7d493 : MethodName := ⟨RJ0, "coder", "()B"⟩
abbrev cJ0_isLatin1_aae02 : ByteArray := prog_9_method_154_code
def yJ0_isLatin1_aae02 : MethodName := ⟨RJ0, "isLatin1", "()Z"⟩
abbrev cJ0_checkIndex_df160 : ByteArray := prog_9_method_155_code
def yJ0_checkIndex_df160 : MethodName := ⟨RJ0, "checkIndex", "(II)V"⟩
def RJ1 : String := "java/lang/StringLatin1"
def TJ1 : u_T := fun k => match k with
  | _ => ("", "", "", false)
def tyJ1 : Nat → FieldType := fun k => match k with
  | _ => .int
abbrev cJ1_charAt_3b067 : ByteArray := prog_10_method_2_code
def yJ1_charAt_3b067 : MethodName := ⟨RJ1, "charAt", "([BI)C"⟩
def RJ2 : String := "java/lang/StringUTF16"
def TJ2 : u_T := fun k => match k with
  | _ => ("", "", "", false)
def tyJ2 : Nat → FieldType := fun k => match k with
  | _ => .int
abbrev cJ2_getChar_3b067 : ByteArray := prog_11_method_5_code
def yJ2_getChar_3b067 : MethodName := ⟨RJ2, "getChar", "([BI)C"⟩
abbrev cJ2_length_9d52b : ByteArray := prog_11_method_6_code
def yJ2_length_9d52b : MethodName := ⟨RJ2, "length", "([B)I"⟩
abbrev cJ2_charAt_3b067 : ByteArray := prog_11_method_83_code
def yJ2_charAt_3b067 : MethodName := ⟨RJ2, "charAt", "([BI)C"⟩
abbrev cJ2_checkIndex_2214a : ByteArray := prog_11_method_91_code
def yJ2_checkIndex_2214a : MethodName := ⟨RJ2, "checkIndex", "(I[B)V"⟩
def RJ10 : String := "java/lang/System"
def TJ10 : u_T := fun k => match k with
  | _ => ("", "", "", false)
def tyJ10 : Nat → FieldType := fun k => match k with
  | _ => .int
def RJ7 : String := "java/util/Arrays"
def TJ7 : u_T := fun k => match k with
  | _ => ("", "", "", false)
def tyJ7 : Nat → FieldType := fun k => match k with
  | _ => .int
abbrev cJ7_fill_53178 : ByteArray := prog_13_method_103_code
def yJ7_fill_53178 : MethodName := ⟨RJ7, "fill", "([II)V"⟩
def RJ3 : String := "jdk/internal/util/Preconditions"
def TJ3 : u_T := fun k => match k with
  | _ => ("", "", "", false)
def tyJ3 : Nat → FieldType := fun k => match k with
  | _ => .int
abbrev cJ3_checkIndex_8e157 : ByteArray := prog_14_method_11_code
def yJ3_checkIndex_8e157 : MethodName := ⟨RJ3, "checkIndex", "(IILjava/util/function/BiFunction;)I"⟩
def RL : String := "PolicyComparerLaw"
abbrev cL_law : ByteArray := code
abbrev vwCl : List vw_C := [(RX0, TX0, 3), (RX1, TX1, 3), (RX2, TX2, 6), (RX3, TX3, 3), (RX4, TX4, 5), (RX5, TX5, 11)]
end
section
theorem dX0_init_0 : decode cX0_init 0 = .ok (.aload_n 0, 1) := by decide +kernel
theorem dX0_init_1 : decode cX0_init 1 = .ok (.invokespecial 3, 3) := by decide +kernel
theorem dX0_init_4 : decode cX0_init 4 = .ok (.aload_n 0, 1) := by decide +kernel
theorem dX0_init_5 : decode cX0_init 5 = .ok (.iconst 4, 1) := by decide +kernel
theorem dX0_init_6 : decode cX0_init 6 = .ok (.newarray .int, 2) := by decide +kernel
theorem dX0_init_8 : decode cX0_init 8 = .ok (.putfield 9, 3) := by decide +kernel
theorem dX0_init_11 : decode cX0_init 11 = .ok (.aload_n 0, 1) := by decide +kernel
theorem dX0_init_12 : decode cX0_init 12 = .ok (.bipush 108, 2) := by decide +kernel
theorem dX0_init_14 : decode cX0_init 14 = .ok (.newarray .int, 2) := by decide +kernel
theorem dX0_init_16 : decode cX0_init 16 = .ok (.putfield 17, 3) := by decide +kernel
theorem dX0_init_19 : decode cX0_init 19 = .ok (.aload_n 0, 1) := by decide +kernel
theorem dX0_init_20 : decode cX0_init 20 = .ok (.iconst 0, 1) := by decide +kernel
theorem dX0_init_21 : decode cX0_init 21 = .ok (.putfield 20, 3) := by decide +kernel
theorem dX0_init_24 : decode cX0_init 24 = .ok (.return_, 1) := by decide +kernel
theorem dX0_size_0 : decode cX0_size 0 = .ok (.aload_n 0, 1) := by decide +kernel
theorem dX0_size_1 : decode cX0_size 1 = .ok (.getfield 20, 3) := by decide +kernel
theorem dX0_size_4 : decode cX0_size 4 = .ok (.ireturn, 1) := by decide +kernel
theorem dX0_forgetAll_0 : decode cX0_forgetAll 0 = .ok (.aload_n 0, 1) := by decide +kernel
theorem dX0_forgetAll_1 : decode cX0_forgetAll 1 = .ok (.iconst 0, 1) := by decide +kernel
theorem dX0_forgetAll_2 : decode cX0_forgetAll 2 = .ok (.putfield 20, 3) := by decide +kernel
theorem dX0_forgetAll_5 : decode cX0_forgetAll 5 = .ok (.return_, 1) := by decide +kernel
theorem dX0_remember_0 : decode cX0_remember 0 = .ok (.aload_n 0, 1) := by decide +kernel
theorem dX0_remember_1 : decode cX0_remember 1 = .ok (.getfield 20, 3) := by decide +kernel
theorem dX0_remember_4 : decode cX0_remember 4 = .ok (.iconst 4, 1) := by decide +kernel
theorem dX0_remember_5 : decode cX0_remember 5 = .ok (.if_icmp .lt 7, 3) := by decide +kernel
theorem dX0_remember_8 : decode cX0_remember 8 = .ok (.aload_n 0, 1) := by decide +kernel
theorem dX0_remember_9 : decode cX0_remember 9 = .ok (.invokevirtual 24, 3) := by decide +kernel
theorem dX0_remember_12 : decode cX0_remember 12 = .ok (.aload_n 0, 1) := by decide +kernel
theorem dX0_remember_13 : decode cX0_remember 13 = .ok (.getfield 9, 3) := by decide +kernel
theorem dX0_remember_16 : decode cX0_remember 16 = .ok (.aload_n 0, 1) := by decide +kernel
theorem dX0_remember_17 : decode cX0_remember 17 = .ok (.getfield 20, 3) := by decide +kernel
theorem dX0_remember_20 : decode cX0_remember 20 = .ok (.iload_n 1, 1) := by decide +kernel
theorem dX0_remember_21 : decode cX0_remember 21 = .ok (.iastore, 1) := by decide +kernel
theorem dX0_remember_22 : decode cX0_remember 22 = .ok (.aload_n 2, 1) := by decide +kernel
theorem dX0_remember_23 : decode cX0_remember 23 = .ok (.aload_n 0, 1) := by decide +kernel
theorem dX0_remember_24 : decode cX0_remember 24 = .ok (.getfield 17, 3) := by decide +kernel
theorem dX0_remember_27 : decode cX0_remember 27 = .ok (.aload_n 0, 1) := by decide +kernel
theorem dX0_remember_28 : decode cX0_remember 28 = .ok (.getfield 20, 3) := by decide +kernel
theorem dX0_remember_31 : decode cX0_remember 31 = .ok (.bipush 27, 2) := by decide +kernel
theorem dX0_remember_33 : decode cX0_remember 33 = .ok (.imul, 1) := by decide +kernel
theorem dX0_remember_34 : decode cX0_remember 34 = .ok (.invokevirtual 27, 3) := by decide +kernel
theorem dX0_remember_37 : decode cX0_remember 37 = .ok (.aload_n 0, 1) := by decide +kernel
theorem dX0_remember_38 : decode cX0_remember 38 = .ok (.dup, 1) := by decide +kernel
theorem dX0_remember_39 : decode cX0_remember 39 = .ok (.getfield 20, 3) := by decide +kernel
theorem dX0_remember_42 : decode cX0_remember 42 = .ok (.iconst 1, 1) := by decide +kernel
theorem dX0_remember_43 : decode cX0_remember 43 = .ok (.iadd, 1) := by decide +kernel
theorem dX0_remember_44 : decode cX0_remember 44 = .ok (.putfield 20, 3) := by decide +kernel
theorem dX0_remember_47 : decode cX0_remember 47 = .ok (.return_, 1) := by decide +kernel
theorem dX0_latestNumber_0 : decode cX0_latestNumber 0 = .ok (.aload_n 0, 1) := by decide +kernel
theorem dX0_latestNumber_1 : decode cX0_latestNumber 1 = .ok (.getfield 20, 3) := by decide +kernel
theorem dX0_latestNumber_4 : decode cX0_latestNumber 4 = .ok (.ifCond .le 17, 3) := by decide +kernel
theorem dX0_latestNumber_7 : decode cX0_latestNumber 7 = .ok (.aload_n 0, 1) := by decide +kernel
theorem dX0_latestNumber_8 : decode cX0_latestNumber 8 = .ok (.getfield 9, 3) := by decide +kernel
theorem dX0_latestNumber_11 : decode cX0_latestNumber 11 = .ok (.aload_n 0, 1) := by decide +kernel
theorem dX0_latestNumber_12 : decode cX0_latestNumber 12 = .ok (.getfield 20, 3) := by decide +kernel
theorem dX0_latestNumber_15 : decode cX0_latestNumber 15 = .ok (.iconst 1, 1) := by decide +kernel
theorem dX0_latestNumber_16 : decode cX0_latestNumber 16 = .ok (.isub, 1) := by decide +kernel
theorem dX0_latestNumber_17 : decode cX0_latestNumber 17 = .ok (.iaload, 1) := by decide +kernel
theorem dX0_latestNumber_18 : decode cX0_latestNumber 18 = .ok (.goto 4, 3) := by decide +kernel
theorem dX0_latestNumber_21 : decode cX0_latestNumber 21 = .ok (.iconst 0, 1) := by decide +kernel
theorem dX0_latestNumber_22 : decode cX0_latestNumber 22 = .ok (.ireturn, 1) := by decide +kernel
theorem dX0_recallInto_0 : decode cX0_recallInto 0 = .ok (.aload_n 0, 1) := by decide +kernel
theorem dX0_recallInto_1 : decode cX0_recallInto 1 = .ok (.getfield 20, 3) := by decide +kernel
theorem dX0_recallInto_4 : decode cX0_recallInto 4 = .ok (.ifCond .le 28, 3) := by decide +kernel
theorem dX0_recallInto_7 : decode cX0_recallInto 7 = .ok (.aload_n 0, 1) := by decide +kernel
theorem dX0_recallInto_8 : decode cX0_recallInto 8 = .ok (.dup, 1) := by decide +kernel
theorem dX0_recallInto_9 : decode cX0_recallInto 9 = .ok (.getfield 20, 3) := by decide +kernel
theorem dX0_recallInto_12 : decode cX0_recallInto 12 = .ok (.iconst 1, 1) := by decide +kernel
theorem dX0_recallInto_13 : decode cX0_recallInto 13 = .ok (.isub, 1) := by decide +kernel
theorem dX0_recallInto_14 : decode cX0_recallInto 14 = .ok (.putfield 20, 3) := by decide +kernel
theorem dX0_recallInto_17 : decode cX0_recallInto 17 = .ok (.aload_n 1, 1) := by decide +kernel
theorem dX0_recallInto_18 : decode cX0_recallInto 18 = .ok (.aload_n 0, 1) := by decide +kernel
theorem dX0_recallInto_19 : decode cX0_recallInto 19 = .ok (.getfield 17, 3) := by decide +kernel
theorem dX0_recallInto_22 : decode cX0_recallInto 22 = .ok (.aload_n 0, 1) := by decide +kernel
theorem dX0_recallInto_23 : decode cX0_recallInto 23 = .ok (.getfield 20, 3) := by decide +kernel
theorem dX0_recallInto_26 : decode cX0_recallInto 26 = .ok (.bipush 27, 2) := by decide +kernel
theorem dX0_recallInto_28 : decode cX0_recallInto 28 = .ok (.imul, 1) := by decide +kernel
theorem dX0_recallInto_29 : decode cX0_recallInto 29 = .ok (.invokevirtual 31, 3) := by decide +kernel
theorem dX0_recallInto_32 : decode cX0_recallInto 32 = .ok (.return_, 1) := by decide +kernel
theorem dX0_forgetOldest_0 : decode cX0_forgetOldest 0 = .ok (.aload_n 0, 1) := by decide +kernel
theorem dX0_forgetOldest_1 : decode cX0_forgetOldest 1 = .ok (.getfield 9, 3) := by decide +kernel
theorem dX0_forgetOldest_4 : decode cX0_forgetOldest 4 = .ok (.iconst 1, 1) := by decide +kernel
theorem dX0_forgetOldest_5 : decode cX0_forgetOldest 5 = .ok (.aload_n 0, 1) := by decide +kernel
theorem dX0_forgetOldest_6 : decode cX0_forgetOldest 6 = .ok (.getfield 9, 3) := by decide +kernel
theorem dX0_forgetOldest_9 : decode cX0_forgetOldest 9 = .ok (.iconst 0, 1) := by decide +kernel
theorem dX0_forgetOldest_10 : decode cX0_forgetOldest 10 = .ok (.iconst 3, 1) := by decide +kernel
theorem dX0_forgetOldest_11 : decode cX0_forgetOldest 11 = .ok (.invokestatic 34, 3) := by decide +kernel
theorem dX0_forgetOldest_14 : decode cX0_forgetOldest 14 = .ok (.aload_n 0, 1) := by decide +kernel
theorem dX0_forgetOldest_15 : decode cX0_forgetOldest 15 = .ok (.getfield 17, 3) := by decide +kernel
theorem dX0_forgetOldest_18 : decode cX0_forgetOldest 18 = .ok (.bipush 27, 2) := by decide +kernel
theorem dX0_forgetOldest_20 : decode cX0_forgetOldest 20 = .ok (.aload_n 0, 1) := by decide +kernel
theorem dX0_forgetOldest_21 : decode cX0_forgetOldest 21 = .ok (.getfield 17, 3) := by decide +kernel
theorem dX0_forgetOldest_24 : decode cX0_forgetOldest 24 = .ok (.iconst 0, 1) := by decide +kernel
theorem dX0_forgetOldest_25 : decode cX0_forgetOldest 25 = .ok (.bipush 81, 2) := by decide +kernel
theorem dX0_forgetOldest_27 : decode cX0_forgetOldest 27 = .ok (.invokestatic 34, 3) := by decide +kernel
theorem dX0_forgetOldest_30 : decode cX0_forgetOldest 30 = .ok (.aload_n 0, 1) := by decide +kernel
theorem dX0_forgetOldest_31 : decode cX0_forgetOldest 31 = .ok (.iconst 3, 1) := by decide +kernel
theorem dX0_forgetOldest_32 : decode cX0_forgetOldest 32 = .ok (.putfield 20, 3) := by decide +kernel
theorem dX0_forgetOldest_35 : decode cX0_forgetOldest 35 = .ok (.return_, 1) := by decide +kernel
theorem dX1_init_0 : decode cX1_init 0 = .ok (.aload_n 0, 1) := by decide +kernel
theorem dX1_init_1 : decode cX1_init 1 = .ok (.invokespecial 5, 3) := by decide +kernel
theorem dX1_init_4 : decode cX1_init 4 = .ok (.aload_n 0, 1) := by decide +kernel
theorem dX1_init_5 : decode cX1_init 5 = .ok (.bipush 25, 2) := by decide +kernel
theorem dX1_init_7 : decode cX1_init 7 = .ok (.newarray .int, 2) := by decide +kernel
theorem dX1_init_9 : decode cX1_init 9 = .ok (.putfield 11, 3) := by decide +kernel
theorem dX1_init_12 : decode cX1_init 12 = .ok (.aload_n 0, 1) := by decide +kernel
theorem dX1_init_13 : decode cX1_init 13 = .ok (.iconst 0, 1) := by decide +kernel
theorem dX1_init_14 : decode cX1_init 14 = .ok (.putfield 15, 3) := by decide +kernel
theorem dX1_init_17 : decode cX1_init 17 = .ok (.aload_n 0, 1) := by decide +kernel
theorem dX1_init_18 : decode cX1_init 18 = .ok (.iconst 0, 1) := by decide +kernel
theorem dX1_init_19 : decode cX1_init 19 = .ok (.putfield 19, 3) := by decide +kernel
theorem dX1_init_22 : decode cX1_init 22 = .ok (.return_, 1) := by decide +kernel
theorem dX1_size_0 : decode cX1_size 0 = .ok (.aload_n 0, 1) := by decide +kernel
theorem dX1_size_1 : decode cX1_size 1 = .ok (.getfield 15, 3) := by decide +kernel
theorem dX1_size_4 : decode cX1_size 4 = .ok (.ireturn, 1) := by decide +kernel
theorem dX1_algorithm_0 : decode cX1_algorithm 0 = .ok (.aload_n 0, 1) := by decide +kernel
theorem dX1_algorithm_1 : decode cX1_algorithm 1 = .ok (.getfield 19, 3) := by decide +kernel
theorem dX1_algorithm_4 : decode cX1_algorithm 4 = .ok (.ireturn, 1) := by decide +kernel
theorem dX1_use_0 : decode cX1_use 0 = .ok (.aload_n 0, 1) := by decide +kernel
theorem dX1_use_1 : decode cX1_use 1 = .ok (.iload_n 1, 1) := by decide +kernel
theorem dX1_use_2 : decode cX1_use 2 = .ok (.putfield 19, 3) := by decide +kernel
theorem dX1_use_5 : decode cX1_use 5 = .ok (.return_, 1) := by decide +kernel
theorem dX1_empty_0 : decode cX1_empty 0 = .ok (.aload_n 0, 1) := by decide +kernel
theorem dX1_empty_1 : decode cX1_empty 1 = .ok (.getfield 11, 3) := by decide +kernel
theorem dX1_empty_4 : decode cX1_empty 4 = .ok (.iconst 0, 1) := by decide +kernel
theorem dX1_empty_5 : decode cX1_empty 5 = .ok (.invokestatic 22, 3) := by decide +kernel
theorem dX1_empty_8 : decode cX1_empty 8 = .ok (.aload_n 0, 1) := by decide +kernel
theorem dX1_empty_9 : decode cX1_empty 9 = .ok (.iconst 0, 1) := by decide +kernel
theorem dX1_empty_10 : decode cX1_empty 10 = .ok (.putfield 15, 3) := by decide +kernel
theorem dX1_empty_13 : decode cX1_empty 13 = .ok (.aload_n 0, 1) := by decide +kernel
theorem dX1_empty_14 : decode cX1_empty 14 = .ok (.iconst 0, 1) := by decide +kernel
theorem dX1_empty_15 : decode cX1_empty 15 = .ok (.putfield 19, 3) := by decide +kernel
theorem dX1_empty_18 : decode cX1_empty 18 = .ok (.return_, 1) := by decide +kernel
theorem dX1_copyFrom_0 : decode cX1_copyFrom 0 = .ok (.aload_n 1, 1) := by decide +kernel
theorem dX1_copyFrom_1 : decode cX1_copyFrom 1 = .ok (.getfield 11, 3) := by decide +kernel
theorem dX1_copyFrom_4 : decode cX1_copyFrom 4 = .ok (.iconst 0, 1) := by decide +kernel
theorem dX1_copyFrom_5 : decode cX1_copyFrom 5 = .ok (.aload_n 0, 1) := by decide +kernel
theorem dX1_copyFrom_6 : decode cX1_copyFrom 6 = .ok (.getfield 11, 3) := by decide +kernel
theorem dX1_copyFrom_9 : decode cX1_copyFrom 9 = .ok (.iconst 0, 1) := by decide +kernel
theorem dX1_copyFrom_10 : decode cX1_copyFrom 10 = .ok (.bipush 25, 2) := by decide +kernel
theorem dX1_copyFrom_12 : decode cX1_copyFrom 12 = .ok (.invokestatic 28, 3) := by decide +kernel
theorem dX1_copyFrom_15 : decode cX1_copyFrom 15 = .ok (.aload_n 0, 1) := by decide +kernel
theorem dX1_copyFrom_16 : decode cX1_copyFrom 16 = .ok (.aload_n 1, 1) := by decide +kernel
theorem dX1_copyFrom_17 : decode cX1_copyFrom 17 = .ok (.getfield 15, 3) := by decide +kernel
theorem dX1_copyFrom_20 : decode cX1_copyFrom 20 = .ok (.putfield 15, 3) := by decide +kernel
theorem dX1_copyFrom_23 : decode cX1_copyFrom 23 = .ok (.aload_n 0, 1) := by decide +kernel
theorem dX1_copyFrom_24 : decode cX1_copyFrom 24 = .ok (.aload_n 1, 1) := by decide +kernel
theorem dX1_copyFrom_25 : decode cX1_copyFrom 25 = .ok (.getfield 19, 3) := by decide +kernel
theorem dX1_copyFrom_28 : decode cX1_copyFrom 28 = .ok (.putfield 19, 3) := by decide +kernel
theorem dX1_copyFrom_31 : decode cX1_copyFrom 31 = .ok (.return_, 1) := by decide +kernel
theorem dX1_saveInto_0 : decode cX1_saveInto 0 = .ok (.iload_n 2, 1) := by decide +kernel
theorem dX1_saveInto_1 : decode cX1_saveInto 1 = .ok (.ifCond .lt 12, 3) := by decide +kernel
theorem dX1_saveInto_4 : decode cX1_saveInto 4 = .ok (.iload_n 2, 1) := by decide +kernel
theorem dX1_saveInto_5 : decode cX1_saveInto 5 = .ok (.aload_n 1, 1) := by decide +kernel
theorem dX1_saveInto_6 : decode cX1_saveInto 6 = .ok (.arraylength, 1) := by decide +kernel
theorem dX1_saveInto_7 : decode cX1_saveInto 7 = .ok (.bipush 27, 2) := by decide +kernel
theorem dX1_saveInto_9 : decode cX1_saveInto 9 = .ok (.isub, 1) := by decide +kernel
theorem dX1_saveInto_10 : decode cX1_saveInto 10 = .ok (.if_icmp .le 4, 3) := by decide +kernel
theorem dX1_saveInto_13 : decode cX1_saveInto 13 = .ok (.return_, 1) := by decide +kernel
theorem dX1_saveInto_14 : decode cX1_saveInto 14 = .ok (.aload_n 0, 1) := by decide +kernel
theorem dX1_saveInto_15 : decode cX1_saveInto 15 = .ok (.getfield 11, 3) := by decide +kernel
theorem dX1_saveInto_18 : decode cX1_saveInto 18 = .ok (.iconst 0, 1) := by decide +kernel
theorem dX1_saveInto_19 : decode cX1_saveInto 19 = .ok (.aload_n 1, 1) := by decide +kernel
theorem dX1_saveInto_20 : decode cX1_saveInto 20 = .ok (.iload_n 2, 1) := by decide +kernel
theorem dX1_saveInto_21 : decode cX1_saveInto 21 = .ok (.bipush 25, 2) := by decide +kernel
theorem dX1_saveInto_23 : decode cX1_saveInto 23 = .ok (.invokestatic 28, 3) := by decide +kernel
theorem dX1_saveInto_26 : decode cX1_saveInto 26 = .ok (.aload_n 1, 1) := by decide +kernel
theorem dX1_saveInto_27 : decode cX1_saveInto 27 = .ok (.iload_n 2, 1) := by decide +kernel
theorem dX1_saveInto_28 : decode cX1_saveInto 28 = .ok (.bipush 25, 2) := by decide +kernel
theorem dX1_saveInto_30 : decode cX1_saveInto 30 = .ok (.iadd, 1) := by decide +kernel
theorem dX1_saveInto_31 : decode cX1_saveInto 31 = .ok (.aload_n 0, 1) := by decide +kernel
theorem dX1_saveInto_32 : decode cX1_saveInto 32 = .ok (.getfield 15, 3) := by decide +kernel
theorem dX1_saveInto_35 : decode cX1_saveInto 35 = .ok (.iastore, 1) := by decide +kernel
theorem dX1_saveInto_36 : decode cX1_saveInto 36 = .ok (.aload_n 1, 1) := by decide +kernel
theorem dX1_saveInto_37 : decode cX1_saveInto 37 = .ok (.iload_n 2, 1) := by decide +kernel
theorem dX1_saveInto_38 : decode cX1_saveInto 38 = .ok (.bipush 25, 2) := by decide +kernel
theorem dX1_saveInto_40 : decode cX1_saveInto 40 = .ok (.iadd, 1) := by decide +kernel
theorem dX1_saveInto_41 : decode cX1_saveInto 41 = .ok (.iconst 1, 1) := by decide +kernel
theorem dX1_saveInto_42 : decode cX1_saveInto 42 = .ok (.iadd, 1) := by decide +kernel
theorem dX1_saveInto_43 : decode cX1_saveInto 43 = .ok (.aload_n 0, 1) := by decide +kernel
theorem dX1_saveInto_44 : decode cX1_saveInto 44 = .ok (.getfield 19, 3) := by decide +kernel
theorem dX1_saveInto_47 : decode cX1_saveInto 47 = .ok (.iastore, 1) := by decide +kernel
theorem dX1_saveInto_48 : decode cX1_saveInto 48 = .ok (.return_, 1) := by decide +kernel
theorem dX1_restoreFrom_0 : decode cX1_restoreFrom 0 = .ok (.iload_n 2, 1) := by decide +kernel
theorem dX1_restoreFrom_1 : decode cX1_restoreFrom 1 = .ok (.ifCond .lt 12, 3) := by decide +kernel
theorem dX1_restoreFrom_4 : decode cX1_restoreFrom 4 = .ok (.iload_n 2, 1) := by decide +kernel
theorem dX1_restoreFrom_5 : decode cX1_restoreFrom 5 = .ok (.aload_n 1, 1) := by decide +kernel
theorem dX1_restoreFrom_6 : decode cX1_restoreFrom 6 = .ok (.arraylength, 1) := by decide +kernel
theorem dX1_restoreFrom_7 : decode cX1_restoreFrom 7 = .ok (.bipush 27, 2) := by decide +kernel
theorem dX1_restoreFrom_9 : decode cX1_restoreFrom 9 = .ok (.isub, 1) := by decide +kernel
theorem dX1_restoreFrom_10 : decode cX1_restoreFrom 10 = .ok (.if_icmp .le 4, 3) := by decide +kernel
theorem dX1_restoreFrom_13 : decode cX1_restoreFrom 13 = .ok (.return_, 1) := by decide +kernel
theorem dX1_restoreFrom_14 : decode cX1_restoreFrom 14 = .ok (.aload_n 1, 1) := by decide +kernel
theorem dX1_restoreFrom_15 : decode cX1_restoreFrom 15 = .ok (.iload_n 2, 1) := by decide +kernel
theorem dX1_restoreFrom_16 : decode cX1_restoreFrom 16 = .ok (.aload_n 0, 1) := by decide +kernel
theorem dX1_restoreFrom_17 : decode cX1_restoreFrom 17 = .ok (.getfield 11, 3) := by decide +kernel
theorem dX1_restoreFrom_20 : decode cX1_restoreFrom 20 = .ok (.iconst 0, 1) := by decide +kernel
theorem dX1_restoreFrom_21 : decode cX1_restoreFrom 21 = .ok (.bipush 25, 2) := by decide +kernel
theorem dX1_restoreFrom_23 : decode cX1_restoreFrom 23 = .ok (.invokestatic 28, 3) := by decide +kernel
theorem dX1_restoreFrom_26 : decode cX1_restoreFrom 26 = .ok (.aload_n 0, 1) := by decide +kernel
theorem dX1_restoreFrom_27 : decode cX1_restoreFrom 27 = .ok (.aload_n 1, 1) := by decide +kernel
theorem dX1_restoreFrom_28 : decode cX1_restoreFrom 28 = .ok (.iload_n 2, 1) := by decide +kernel
theorem dX1_restoreFrom_29 : decode cX1_restoreFrom 29 = .ok (.bipush 25, 2) := by decide +kernel
theorem dX1_restoreFrom_31 : decode cX1_restoreFrom 31 = .ok (.iadd, 1) := by decide +kernel
theorem dX1_restoreFrom_32 : decode cX1_restoreFrom 32 = .ok (.iaload, 1) := by decide +kernel
theorem dX1_restoreFrom_33 : decode cX1_restoreFrom 33 = .ok (.putfield 15, 3) := by decide +kernel
theorem dX1_restoreFrom_36 : decode cX1_restoreFrom 36 = .ok (.aload_n 0, 1) := by decide +kernel
theorem dX1_restoreFrom_37 : decode cX1_restoreFrom 37 = .ok (.aload_n 1, 1) := by decide +kernel
theorem dX1_restoreFrom_38 : decode cX1_restoreFrom 38 = .ok (.iload_n 2, 1) := by decide +kernel
theorem dX1_restoreFrom_39 : decode cX1_restoreFrom 39 = .ok (.bipush 25, 2) := by decide +kernel
theorem dX1_restoreFrom_41 : decode cX1_restoreFrom 41 = .ok (.iadd, 1) := by decide +kernel
theorem dX1_restoreFrom_42 : decode cX1_restoreFrom 42 = .ok (.iconst 1, 1) := by decide +kernel
theorem dX1_restoreFrom_43 : decode cX1_restoreFrom 43 = .ok (.iadd, 1) := by decide +kernel
theorem dX1_restoreFrom_44 : decode cX1_restoreFrom 44 = .ok (.iaload, 1) := by decide +kernel
theorem dX1_restoreFrom_45 : decode cX1_restoreFrom 45 = .ok (.putfield 19, 3) := by decide +kernel
theorem dX1_restoreFrom_48 : decode cX1_restoreFrom 48 = .ok (.return_, 1) := by decide +kernel
theorem dX1_insertRule_0 : decode cX1_insertRule 0 = .ok (.iconst 0, 1) := by decide +kernel
theorem dX1_insertRule_1 : decode cX1_insertRule 1 = .ok (.istore_n 3, 1) := by decide +kernel
theorem dX1_insertRule_2 : decode cX1_insertRule 2 = .ok (.iload_n 3, 1) := by decide +kernel
theorem dX1_insertRule_3 : decode cX1_insertRule 3 = .ok (.bipush 24, 2) := by decide +kernel
theorem dX1_insertRule_5 : decode cX1_insertRule 5 = .ok (.if_icmp .ge 26, 3) := by decide +kernel
theorem dX1_insertRule_8 : decode cX1_insertRule 8 = .ok (.aload_n 0, 1) := by decide +kernel
theorem dX1_insertRule_9 : decode cX1_insertRule 9 = .ok (.getfield 11, 3) := by decide +kernel
theorem dX1_insertRule_12 : decode cX1_insertRule 12 = .ok (.iload_n 3, 1) := by decide +kernel
theorem dX1_insertRule_13 : decode cX1_insertRule 13 = .ok (.aload_n 0, 1) := by decide +kernel
theorem dX1_insertRule_14 : decode cX1_insertRule 14 = .ok (.getfield 11, 3) := by decide +kernel
theorem dX1_insertRule_17 : decode cX1_insertRule 17 = .ok (.iload_n 3, 1) := by decide +kernel
theorem dX1_insertRule_18 : decode cX1_insertRule 18 = .ok (.iaload, 1) := by decide +kernel
theorem dX1_insertRule_19 : decode cX1_insertRule 19 = .ok (.iload_n 1, 1) := by decide +kernel
theorem dX1_insertRule_20 : decode cX1_insertRule 20 = .ok (.iconst 1, 1) := by decide +kernel
theorem dX1_insertRule_21 : decode cX1_insertRule 21 = .ok (.invokestatic 34, 3) := by decide +kernel
theorem dX1_insertRule_24 : decode cX1_insertRule 24 = .ok (.iastore, 1) := by decide +kernel
theorem dX1_insertRule_25 : decode cX1_insertRule 25 = .ok (.iinc 3 1, 3) := by decide +kernel
theorem dX1_insertRule_28 : decode cX1_insertRule 28 = .ok (.goto (-26), 3) := by decide +kernel
theorem dX1_insertRule_31 : decode cX1_insertRule 31 = .ok (.aload_n 0, 1) := by decide +kernel
theorem dX1_insertRule_32 : decode cX1_insertRule 32 = .ok (.getfield 11, 3) := by decide +kernel
theorem dX1_insertRule_35 : decode cX1_insertRule 35 = .ok (.bipush 24, 2) := by decide +kernel
theorem dX1_insertRule_37 : decode cX1_insertRule 37 = .ok (.aload_n 0, 1) := by decide +kernel
theorem dX1_insertRule_38 : decode cX1_insertRule 38 = .ok (.getfield 11, 3) := by decide +kernel
theorem dX1_insertRule_41 : decode cX1_insertRule 41 = .ok (.bipush 24, 2) := by decide +kernel
theorem dX1_insertRule_43 : decode cX1_insertRule 43 = .ok (.iaload, 1) := by decide +kernel
theorem dX1_insertRule_44 : decode cX1_insertRule 44 = .ok (.iload_n 1, 1) := by decide +kernel
theorem dX1_insertRule_45 : decode cX1_insertRule 45 = .ok (.iload_n 2, 1) := by decide +kernel
theorem dX1_insertRule_46 : decode cX1_insertRule 46 = .ok (.iconst 1, 1) := by decide +kernel
theorem dX1_insertRule_47 : decode cX1_insertRule 47 = .ok (.if_icmp .ne 7, 3) := by decide +kernel
theorem dX1_insertRule_50 : decode cX1_insertRule 50 = .ok (.iconst 1, 1) := by decide +kernel
theorem dX1_insertRule_51 : decode cX1_insertRule 51 = .ok (.goto 4, 3) := by decide +kernel
theorem dX1_insertRule_54 : decode cX1_insertRule 54 = .ok (.iconst 0, 1) := by decide +kernel
theorem dX1_insertRule_55 : decode cX1_insertRule 55 = .ok (.invokestatic 34, 3) := by decide +kernel
theorem dX1_insertRule_58 : decode cX1_insertRule 58 = .ok (.iastore, 1) := by decide +kernel
theorem dX1_insertRule_59 : decode cX1_insertRule 59 = .ok (.aload_n 0, 1) := by decide +kernel
theorem dX1_insertRule_60 : decode cX1_insertRule 60 = .ok (.dup, 1) := by decide +kernel
theorem dX1_insertRule_61 : decode cX1_insertRule 61 = .ok (.getfield 15, 3) := by decide +kernel
theorem dX1_insertRule_64 : decode cX1_insertRule 64 = .ok (.iconst 1, 1) := by decide +kernel
theorem dX1_insertRule_65 : decode cX1_insertRule 65 = .ok (.iadd, 1) := by decide +kernel
theorem dX1_insertRule_66 : decode cX1_insertRule 66 = .ok (.putfield 15, 3) := by decide +kernel
theorem dX1_insertRule_69 : decode cX1_insertRule 69 = .ok (.return_, 1) := by decide +kernel
theorem dX1_dropRule_0 : decode cX1_dropRule 0 = .ok (.iconst 0, 1) := by decide +kernel
theorem dX1_dropRule_1 : decode cX1_dropRule 1 = .ok (.istore_n 2, 1) := by decide +kernel
theorem dX1_dropRule_2 : decode cX1_dropRule 2 = .ok (.iload_n 2, 1) := by decide +kernel
theorem dX1_dropRule_3 : decode cX1_dropRule 3 = .ok (.bipush 25, 2) := by decide +kernel
theorem dX1_dropRule_5 : decode cX1_dropRule 5 = .ok (.if_icmp .ge 25, 3) := by decide +kernel
theorem dX1_dropRule_8 : decode cX1_dropRule 8 = .ok (.aload_n 0, 1) := by decide +kernel
theorem dX1_dropRule_9 : decode cX1_dropRule 9 = .ok (.getfield 11, 3) := by decide +kernel
theorem dX1_dropRule_12 : decode cX1_dropRule 12 = .ok (.iload_n 2, 1) := by decide +kernel
theorem dX1_dropRule_13 : decode cX1_dropRule 13 = .ok (.aload_n 0, 1) := by decide +kernel
theorem dX1_dropRule_14 : decode cX1_dropRule 14 = .ok (.getfield 11, 3) := by decide +kernel
theorem dX1_dropRule_17 : decode cX1_dropRule 17 = .ok (.iload_n 2, 1) := by decide +kernel
theorem dX1_dropRule_18 : decode cX1_dropRule 18 = .ok (.iaload, 1) := by decide +kernel
theorem dX1_dropRule_19 : decode cX1_dropRule 19 = .ok (.iload_n 1, 1) := by decide +kernel
theorem dX1_dropRule_20 : decode cX1_dropRule 20 = .ok (.invokestatic 38, 3) := by decide +kernel
theorem dX1_dropRule_23 : decode cX1_dropRule 23 = .ok (.iastore, 1) := by decide +kernel
theorem dX1_dropRule_24 : decode cX1_dropRule 24 = .ok (.iinc 2 1, 3) := by decide +kernel
theorem dX1_dropRule_27 : decode cX1_dropRule 27 = .ok (.goto (-25), 3) := by decide +kernel
theorem dX1_dropRule_30 : decode cX1_dropRule 30 = .ok (.aload_n 0, 1) := by decide +kernel
theorem dX1_dropRule_31 : decode cX1_dropRule 31 = .ok (.dup, 1) := by decide +kernel
theorem dX1_dropRule_32 : decode cX1_dropRule 32 = .ok (.getfield 15, 3) := by decide +kernel
theorem dX1_dropRule_35 : decode cX1_dropRule 35 = .ok (.iconst 1, 1) := by decide +kernel
theorem dX1_dropRule_36 : decode cX1_dropRule 36 = .ok (.isub, 1) := by decide +kernel
theorem dX1_dropRule_37 : decode cX1_dropRule 37 = .ok (.putfield 15, 3) := by decide +kernel
theorem dX1_dropRule_40 : decode cX1_dropRule 40 = .ok (.return_, 1) := by decide +kernel
theorem dX1_shiftRule_0 : decode cX1_shiftRule 0 = .ok (.iconst 0, 1) := by decide +kernel
theorem dX1_shiftRule_1 : decode cX1_shiftRule 1 = .ok (.istore_n 3, 1) := by decide +kernel
theorem dX1_shiftRule_2 : decode cX1_shiftRule 2 = .ok (.iload_n 3, 1) := by decide +kernel
theorem dX1_shiftRule_3 : decode cX1_shiftRule 3 = .ok (.bipush 25, 2) := by decide +kernel
theorem dX1_shiftRule_5 : decode cX1_shiftRule 5 = .ok (.if_icmp .ge 43, 3) := by decide +kernel
theorem dX1_shiftRule_8 : decode cX1_shiftRule 8 = .ok (.aload_n 0, 1) := by decide +kernel
theorem dX1_shiftRule_9 : decode cX1_shiftRule 9 = .ok (.getfield 11, 3) := by decide +kernel
theorem dX1_shiftRule_12 : decode cX1_shiftRule 12 = .ok (.iload_n 3, 1) := by decide +kernel
theorem dX1_shiftRule_13 : decode cX1_shiftRule 13 = .ok (.iaload, 1) := by decide +kernel
theorem dX1_shiftRule_14 : decode cX1_shiftRule 14 = .ok (.iload_n 1, 1) := by decide +kernel
theorem dX1_shiftRule_15 : decode cX1_shiftRule 15 = .ok (.ishr, 1) := by decide +kernel
theorem dX1_shiftRule_16 : decode cX1_shiftRule 16 = .ok (.iconst 1, 1) := by decide +kernel
theorem dX1_shiftRule_17 : decode cX1_shiftRule 17 = .ok (.iand, 1) := by decide +kernel
theorem dX1_shiftRule_18 : decode cX1_shiftRule 18 = .ok (.istore 4, 2) := by decide +kernel
theorem dX1_shiftRule_20 : decode cX1_shiftRule 20 = .ok (.aload_n 0, 1) := by decide +kernel
theorem dX1_shiftRule_21 : decode cX1_shiftRule 21 = .ok (.getfield 11, 3) := by decide +kernel
theorem dX1_shiftRule_24 : decode cX1_shiftRule 24 = .ok (.iload_n 3, 1) := by decide +kernel
theorem dX1_shiftRule_25 : decode cX1_shiftRule 25 = .ok (.aload_n 0, 1) := by decide +kernel
theorem dX1_shiftRule_26 : decode cX1_shiftRule 26 = .ok (.getfield 11, 3) := by decide +kernel
theorem dX1_shiftRule_29 : decode cX1_shiftRule 29 = .ok (.iload_n 3, 1) := by decide +kernel
theorem dX1_shiftRule_30 : decode cX1_shiftRule 30 = .ok (.iaload, 1) := by decide +kernel
theorem dX1_shiftRule_31 : decode cX1_shiftRule 31 = .ok (.iload_n 1, 1) := by decide +kernel
theorem dX1_shiftRule_32 : decode cX1_shiftRule 32 = .ok (.invokestatic 38, 3) := by decide +kernel
theorem dX1_shiftRule_35 : decode cX1_shiftRule 35 = .ok (.iload_n 2, 1) := by decide +kernel
theorem dX1_shiftRule_36 : decode cX1_shiftRule 36 = .ok (.iload 4, 2) := by decide +kernel
theorem dX1_shiftRule_38 : decode cX1_shiftRule 38 = .ok (.invokestatic 34, 3) := by decide +kernel
theorem dX1_shiftRule_41 : decode cX1_shiftRule 41 = .ok (.iastore, 1) := by decide +kernel
theorem dX1_shiftRule_42 : decode cX1_shiftRule 42 = .ok (.iinc 3 1, 3) := by decide +kernel
theorem dX1_shiftRule_45 : decode cX1_shiftRule 45 = .ok (.goto (-43), 3) := by decide +kernel
theorem dX1_shiftRule_48 : decode cX1_shiftRule 48 = .ok (.return_, 1) := by decide +kernel
theorem dX1_restrict_0 : decode cX1_restrict 0 = .ok (.getstatic 42, 3) := by decide +kernel
theorem dX1_restrict_3 : decode cX1_restrict 3 = .ok (.iload_n 2, 1) := by decide +kernel
theorem dX1_restrict_4 : decode cX1_restrict 4 = .ok (.iaload, 1) := by decide +kernel
theorem dX1_restrict_5 : decode cX1_restrict 5 = .ok (.istore 4, 2) := by decide +kernel
theorem dX1_restrict_7 : decode cX1_restrict 7 = .ok (.iconst 0, 1) := by decide +kernel
theorem dX1_restrict_8 : decode cX1_restrict 8 = .ok (.istore 5, 2) := by decide +kernel
theorem dX1_restrict_10 : decode cX1_restrict 10 = .ok (.iload 5, 2) := by decide +kernel
theorem dX1_restrict_12 : decode cX1_restrict 12 = .ok (.getstatic 45, 3) := by decide +kernel
theorem dX1_restrict_15 : decode cX1_restrict 15 = .ok (.iload_n 2, 1) := by decide +kernel
theorem dX1_restrict_16 : decode cX1_restrict 16 = .ok (.iaload, 1) := by decide +kernel
theorem dX1_restrict_17 : decode cX1_restrict 17 = .ok (.if_icmp .ge 48, 3) := by decide +kernel
theorem dX1_restrict_20 : decode cX1_restrict 20 = .ok (.iload_n 3, 1) := by decide +kernel
theorem dX1_restrict_21 : decode cX1_restrict 21 = .ok (.iload 5, 2) := by decide +kernel
theorem dX1_restrict_23 : decode cX1_restrict 23 = .ok (.ishr, 1) := by decide +kernel
theorem dX1_restrict_24 : decode cX1_restrict 24 = .ok (.iconst 1, 1) := by decide +kernel
theorem dX1_restrict_25 : decode cX1_restrict 25 = .ok (.iand, 1) := by decide +kernel
theorem dX1_restrict_26 : decode cX1_restrict 26 = .ok (.istore 6, 2) := by decide +kernel
theorem dX1_restrict_28 : decode cX1_restrict 28 = .ok (.aload_n 0, 1) := by decide +kernel
theorem dX1_restrict_29 : decode cX1_restrict 29 = .ok (.getfield 11, 3) := by decide +kernel
theorem dX1_restrict_32 : decode cX1_restrict 32 = .ok (.iload 4, 2) := by decide +kernel
theorem dX1_restrict_34 : decode cX1_restrict 34 = .ok (.iload 5, 2) := by decide +kernel
theorem dX1_restrict_36 : decode cX1_restrict 36 = .ok (.iadd, 1) := by decide +kernel
theorem dX1_restrict_37 : decode cX1_restrict 37 = .ok (.aload_n 0, 1) := by decide +kernel
theorem dX1_restrict_38 : decode cX1_restrict 38 = .ok (.getfield 11, 3) := by decide +kernel
theorem dX1_restrict_41 : decode cX1_restrict 41 = .ok (.iload 4, 2) := by decide +kernel
theorem dX1_restrict_43 : decode cX1_restrict 43 = .ok (.iload 5, 2) := by decide +kernel
theorem dX1_restrict_45 : decode cX1_restrict 45 = .ok (.iadd, 1) := by decide +kernel
theorem dX1_restrict_46 : decode cX1_restrict 46 = .ok (.iaload, 1) := by decide +kernel
theorem dX1_restrict_47 : decode cX1_restrict 47 = .ok (.iconst 1, 1) := by decide +kernel
theorem dX1_restrict_48 : decode cX1_restrict 48 = .ok (.iload_n 1, 1) := by decide +kernel
theorem dX1_restrict_49 : decode cX1_restrict 49 = .ok (.ishl, 1) := by decide +kernel
theorem dX1_restrict_50 : decode cX1_restrict 50 = .ok (.iconst (-1), 1) := by decide +kernel
theorem dX1_restrict_51 : decode cX1_restrict 51 = .ok (.ixor, 1) := by decide +kernel
theorem dX1_restrict_52 : decode cX1_restrict 52 = .ok (.iand, 1) := by decide +kernel
theorem dX1_restrict_53 : decode cX1_restrict 53 = .ok (.iload 6, 2) := by decide +kernel
theorem dX1_restrict_55 : decode cX1_restrict 55 = .ok (.iload_n 1, 1) := by decide +kernel
theorem dX1_restrict_56 : decode cX1_restrict 56 = .ok (.ishl, 1) := by decide +kernel
theorem dX1_restrict_57 : decode cX1_restrict 57 = .ok (.ior, 1) := by decide +kernel
theorem dX1_restrict_58 : decode cX1_restrict 58 = .ok (.iastore, 1) := by decide +kernel
theorem dX1_restrict_59 : decode cX1_restrict 59 = .ok (.iinc 5 1, 3) := by decide +kernel
theorem dX1_restrict_62 : decode cX1_restrict 62 = .ok (.goto (-52), 3) := by decide +kernel
theorem dX1_restrict_65 : decode cX1_restrict 65 = .ok (.return_, 1) := by decide +kernel
theorem dX1_valuesAt_0 : decode cX1_valuesAt 0 = .ok (.getstatic 42, 3) := by decide +kernel
theorem dX1_valuesAt_3 : decode cX1_valuesAt 3 = .ok (.iload_n 2, 1) := by decide +kernel
theorem dX1_valuesAt_4 : decode cX1_valuesAt 4 = .ok (.iaload, 1) := by decide +kernel
theorem dX1_valuesAt_5 : decode cX1_valuesAt 5 = .ok (.istore_n 3, 1) := by decide +kernel
theorem dX1_valuesAt_6 : decode cX1_valuesAt 6 = .ok (.iconst 0, 1) := by decide +kernel
theorem dX1_valuesAt_7 : decode cX1_valuesAt 7 = .ok (.istore 4, 2) := by decide +kernel
theorem dX1_valuesAt_9 : decode cX1_valuesAt 9 = .ok (.iconst 0, 1) := by decide +kernel
theorem dX1_valuesAt_10 : decode cX1_valuesAt 10 = .ok (.istore 5, 2) := by decide +kernel
theorem dX1_valuesAt_12 : decode cX1_valuesAt 12 = .ok (.iload 5, 2) := by decide +kernel
theorem dX1_valuesAt_14 : decode cX1_valuesAt 14 = .ok (.getstatic 45, 3) := by decide +kernel
theorem dX1_valuesAt_17 : decode cX1_valuesAt 17 = .ok (.iload_n 2, 1) := by decide +kernel
theorem dX1_valuesAt_18 : decode cX1_valuesAt 18 = .ok (.iaload, 1) := by decide +kernel
theorem dX1_valuesAt_19 : decode cX1_valuesAt 19 = .ok (.if_icmp .ge 30, 3) := by decide +kernel
theorem dX1_valuesAt_22 : decode cX1_valuesAt 22 = .ok (.iload 4, 2) := by decide +kernel
theorem dX1_valuesAt_24 : decode cX1_valuesAt 24 = .ok (.aload_n 0, 1) := by decide +kernel
theorem dX1_valuesAt_25 : decode cX1_valuesAt 25 = .ok (.getfield 11, 3) := by decide +kernel
theorem dX1_valuesAt_28 : decode cX1_valuesAt 28 = .ok (.iload_n 3, 1) := by decide +kernel
theorem dX1_valuesAt_29 : decode cX1_valuesAt 29 = .ok (.iload 5, 2) := by decide +kernel
theorem dX1_valuesAt_31 : decode cX1_valuesAt 31 = .ok (.iadd, 1) := by decide +kernel
theorem dX1_valuesAt_32 : decode cX1_valuesAt 32 = .ok (.iaload, 1) := by decide +kernel
theorem dX1_valuesAt_33 : decode cX1_valuesAt 33 = .ok (.iload_n 1, 1) := by decide +kernel
theorem dX1_valuesAt_34 : decode cX1_valuesAt 34 = .ok (.ishr, 1) := by decide +kernel
theorem dX1_valuesAt_35 : decode cX1_valuesAt 35 = .ok (.iconst 1, 1) := by decide +kernel
theorem dX1_valuesAt_36 : decode cX1_valuesAt 36 = .ok (.iand, 1) := by decide +kernel
theorem dX1_valuesAt_37 : decode cX1_valuesAt 37 = .ok (.iload 5, 2) := by decide +kernel
theorem dX1_valuesAt_39 : decode cX1_valuesAt 39 = .ok (.ishl, 1) := by decide +kernel
theorem dX1_valuesAt_40 : decode cX1_valuesAt 40 = .ok (.ior, 1) := by decide +kernel
theorem dX1_valuesAt_41 : decode cX1_valuesAt 41 = .ok (.istore 4, 2) := by decide +kernel
theorem dX1_valuesAt_43 : decode cX1_valuesAt 43 = .ok (.iinc 5 1, 3) := by decide +kernel
theorem dX1_valuesAt_46 : decode cX1_valuesAt 46 = .ok (.goto (-34), 3) := by decide +kernel
theorem dX1_valuesAt_49 : decode cX1_valuesAt 49 = .ok (.iload 4, 2) := by decide +kernel
theorem dX1_valuesAt_51 : decode cX1_valuesAt 51 = .ok (.ireturn, 1) := by decide +kernel
theorem dX1_turnEffect_0 : decode cX1_turnEffect 0 = .ok (.aload_n 0, 1) := by decide +kernel
theorem dX1_turnEffect_1 : decode cX1_turnEffect 1 = .ok (.getfield 11, 3) := by decide +kernel
theorem dX1_turnEffect_4 : decode cX1_turnEffect 4 = .ok (.bipush 24, 2) := by decide +kernel
theorem dX1_turnEffect_6 : decode cX1_turnEffect 6 = .ok (.dup2, 1) := by decide +kernel
theorem dX1_turnEffect_7 : decode cX1_turnEffect 7 = .ok (.iaload, 1) := by decide +kernel
theorem dX1_turnEffect_8 : decode cX1_turnEffect 8 = .ok (.iconst 1, 1) := by decide +kernel
theorem dX1_turnEffect_9 : decode cX1_turnEffect 9 = .ok (.iload_n 1, 1) := by decide +kernel
theorem dX1_turnEffect_10 : decode cX1_turnEffect 10 = .ok (.ishl, 1) := by decide +kernel
theorem dX1_turnEffect_11 : decode cX1_turnEffect 11 = .ok (.ixor, 1) := by decide +kernel
theorem dX1_turnEffect_12 : decode cX1_turnEffect 12 = .ok (.iastore, 1) := by decide +kernel
theorem dX1_turnEffect_13 : decode cX1_turnEffect 13 = .ok (.return_, 1) := by decide +kernel
theorem dX1_effectAt_0 : decode cX1_effectAt 0 = .ok (.aload_n 0, 1) := by decide +kernel
theorem dX1_effectAt_1 : decode cX1_effectAt 1 = .ok (.getfield 11, 3) := by decide +kernel
theorem dX1_effectAt_4 : decode cX1_effectAt 4 = .ok (.bipush 24, 2) := by decide +kernel
theorem dX1_effectAt_6 : decode cX1_effectAt 6 = .ok (.iaload, 1) := by decide +kernel
theorem dX1_effectAt_7 : decode cX1_effectAt 7 = .ok (.iload_n 1, 1) := by decide +kernel
theorem dX1_effectAt_8 : decode cX1_effectAt 8 = .ok (.ishr, 1) := by decide +kernel
theorem dX1_effectAt_9 : decode cX1_effectAt 9 = .ok (.iconst 1, 1) := by decide +kernel
theorem dX1_effectAt_10 : decode cX1_effectAt 10 = .ok (.iand, 1) := by decide +kernel
theorem dX1_effectAt_11 : decode cX1_effectAt 11 = .ok (.ifCond .eq 7, 3) := by decide +kernel
theorem dX1_effectAt_14 : decode cX1_effectAt 14 = .ok (.iconst 1, 1) := by decide +kernel
theorem dX1_effectAt_15 : decode cX1_effectAt 15 = .ok (.goto 4, 3) := by decide +kernel
theorem dX1_effectAt_18 : decode cX1_effectAt 18 = .ok (.iconst 0, 1) := by decide +kernel
theorem dX1_effectAt_19 : decode cX1_effectAt 19 = .ok (.ireturn, 1) := by decide +kernel
theorem dX1_allRules_0 : decode cX1_allRules 0 = .ok (.iconst 1, 1) := by decide +kernel
theorem dX1_allRules_1 : decode cX1_allRules 1 = .ok (.aload_n 0, 1) := by decide +kernel
theorem dX1_allRules_2 : decode cX1_allRules 2 = .ok (.getfield 15, 3) := by decide +kernel
theorem dX1_allRules_5 : decode cX1_allRules 5 = .ok (.ishl, 1) := by decide +kernel
theorem dX1_allRules_6 : decode cX1_allRules 6 = .ok (.iconst 1, 1) := by decide +kernel
theorem dX1_allRules_7 : decode cX1_allRules 7 = .ok (.isub, 1) := by decide +kernel
theorem dX1_allRules_8 : decode cX1_allRules 8 = .ok (.ireturn, 1) := by decide +kernel
theorem dX1_applying_0 : decode cX1_applying 0 = .ok (.aload_n 0, 1) := by decide +kernel
theorem dX1_applying_1 : decode cX1_applying 1 = .ok (.getfield 11, 3) := by decide +kernel
theorem dX1_applying_4 : decode cX1_applying 4 = .ok (.iconst 0, 1) := by decide +kernel
theorem dX1_applying_5 : decode cX1_applying 5 = .ok (.iload_n 1, 1) := by decide +kernel
theorem dX1_applying_6 : decode cX1_applying 6 = .ok (.bipush 7, 2) := by decide +kernel
theorem dX1_applying_8 : decode cX1_applying 8 = .ok (.ishr, 1) := by decide +kernel
theorem dX1_applying_9 : decode cX1_applying 9 = .ok (.bipush 7, 2) := by decide +kernel
theorem dX1_applying_11 : decode cX1_applying 11 = .ok (.iand, 1) := by decide +kernel
theorem dX1_applying_12 : decode cX1_applying 12 = .ok (.iadd, 1) := by decide +kernel
theorem dX1_applying_13 : decode cX1_applying 13 = .ok (.iaload, 1) := by decide +kernel
theorem dX1_applying_14 : decode cX1_applying 14 = .ok (.aload_n 0, 1) := by decide +kernel
theorem dX1_applying_15 : decode cX1_applying 15 = .ok (.getfield 11, 3) := by decide +kernel
theorem dX1_applying_18 : decode cX1_applying 18 = .ok (.bipush 8, 2) := by decide +kernel
theorem dX1_applying_20 : decode cX1_applying 20 = .ok (.iload_n 1, 1) := by decide +kernel
theorem dX1_applying_21 : decode cX1_applying 21 = .ok (.iconst 5, 1) := by decide +kernel
theorem dX1_applying_22 : decode cX1_applying 22 = .ok (.ishr, 1) := by decide +kernel
theorem dX1_applying_23 : decode cX1_applying 23 = .ok (.iconst 3, 1) := by decide +kernel
theorem dX1_applying_24 : decode cX1_applying 24 = .ok (.iand, 1) := by decide +kernel
theorem dX1_applying_25 : decode cX1_applying 25 = .ok (.iadd, 1) := by decide +kernel
theorem dX1_applying_26 : decode cX1_applying 26 = .ok (.iaload, 1) := by decide +kernel
theorem dX1_applying_27 : decode cX1_applying 27 = .ok (.iand, 1) := by decide +kernel
theorem dX1_applying_28 : decode cX1_applying 28 = .ok (.aload_n 0, 1) := by decide +kernel
theorem dX1_applying_29 : decode cX1_applying 29 = .ok (.getfield 11, 3) := by decide +kernel
theorem dX1_applying_32 : decode cX1_applying 32 = .ok (.bipush 12, 2) := by decide +kernel
theorem dX1_applying_34 : decode cX1_applying 34 = .ok (.iload_n 1, 1) := by decide +kernel
theorem dX1_applying_35 : decode cX1_applying 35 = .ok (.iconst 2, 1) := by decide +kernel
theorem dX1_applying_36 : decode cX1_applying 36 = .ok (.ishr, 1) := by decide +kernel
theorem dX1_applying_37 : decode cX1_applying 37 = .ok (.bipush 7, 2) := by decide +kernel
theorem dX1_applying_39 : decode cX1_applying 39 = .ok (.iand, 1) := by decide +kernel
theorem dX1_applying_40 : decode cX1_applying 40 = .ok (.iadd, 1) := by decide +kernel
theorem dX1_applying_41 : decode cX1_applying 41 = .ok (.iaload, 1) := by decide +kernel
theorem dX1_applying_42 : decode cX1_applying 42 = .ok (.iand, 1) := by decide +kernel
theorem dX1_applying_43 : decode cX1_applying 43 = .ok (.aload_n 0, 1) := by decide +kernel
theorem dX1_applying_44 : decode cX1_applying 44 = .ok (.getfield 11, 3) := by decide +kernel
theorem dX1_applying_47 : decode cX1_applying 47 = .ok (.bipush 20, 2) := by decide +kernel
theorem dX1_applying_49 : decode cX1_applying 49 = .ok (.iload_n 1, 1) := by decide +kernel
theorem dX1_applying_50 : decode cX1_applying 50 = .ok (.iconst 3, 1) := by decide +kernel
theorem dX1_applying_51 : decode cX1_applying 51 = .ok (.iand, 1) := by decide +kernel
theorem dX1_applying_52 : decode cX1_applying 52 = .ok (.iadd, 1) := by decide +kernel
theorem dX1_applying_53 : decode cX1_applying 53 = .ok (.iaload, 1) := by decide +kernel
theorem dX1_applying_54 : decode cX1_applying 54 = .ok (.iand, 1) := by decide +kernel
theorem dX1_applying_55 : decode cX1_applying 55 = .ok (.ireturn, 1) := by decide +kernel
theorem dX1_decisionOn_0 : decode cX1_decisionOn 0 = .ok (.aload_n 0, 1) := by decide +kernel
theorem dX1_decisionOn_1 : decode cX1_decisionOn 1 = .ok (.aload_n 0, 1) := by decide +kernel
theorem dX1_decisionOn_2 : decode cX1_decisionOn 2 = .ok (.iload_n 1, 1) := by decide +kernel
theorem dX1_decisionOn_3 : decode cX1_decisionOn 3 = .ok (.invokevirtual 48, 3) := by decide +kernel
theorem dX1_decisionOn_6 : decode cX1_decisionOn 6 = .ok (.invokevirtual 52, 3) := by decide +kernel
theorem dX1_decisionOn_9 : decode cX1_decisionOn 9 = .ok (.ireturn, 1) := by decide +kernel
theorem dX1_decisionAmong_0 : decode cX1_decisionAmong 0 = .ok (.iload_n 1, 1) := by decide +kernel
theorem dX1_decisionAmong_1 : decode cX1_decisionAmong 1 = .ok (.ifCond .ne 5, 3) := by decide +kernel
theorem dX1_decisionAmong_4 : decode cX1_decisionAmong 4 = .ok (.iconst 2, 1) := by decide +kernel
theorem dX1_decisionAmong_5 : decode cX1_decisionAmong 5 = .ok (.ireturn, 1) := by decide +kernel
theorem dX1_decisionAmong_6 : decode cX1_decisionAmong 6 = .ok (.iload_n 1, 1) := by decide +kernel
theorem dX1_decisionAmong_7 : decode cX1_decisionAmong 7 = .ok (.aload_n 0, 1) := by decide +kernel
theorem dX1_decisionAmong_8 : decode cX1_decisionAmong 8 = .ok (.getfield 11, 3) := by decide +kernel
theorem dX1_decisionAmong_11 : decode cX1_decisionAmong 11 = .ok (.bipush 24, 2) := by decide +kernel
theorem dX1_decisionAmong_13 : decode cX1_decisionAmong 13 = .ok (.iaload, 1) := by decide +kernel
theorem dX1_decisionAmong_14 : decode cX1_decisionAmong 14 = .ok (.iand, 1) := by decide +kernel
theorem dX1_decisionAmong_15 : decode cX1_decisionAmong 15 = .ok (.istore_n 2, 1) := by decide +kernel
theorem dX1_decisionAmong_16 : decode cX1_decisionAmong 16 = .ok (.aload_n 0, 1) := by decide +kernel
theorem dX1_decisionAmong_17 : decode cX1_decisionAmong 17 = .ok (.getfield 19, 3) := by decide +kernel
theorem dX1_decisionAmong_20 : decode cX1_decisionAmong 20 = .ok (.tableswitch 90 0 3 #[32, 47, 57, 68], 32) := by decide +kernel
theorem dX1_decisionAmong_52 : decode cX1_decisionAmong 52 = .ok (.iload_n 2, 1) := by decide +kernel
theorem dX1_decisionAmong_53 : decode cX1_decisionAmong 53 = .ok (.iload_n 1, 1) := by decide +kernel
theorem dX1_decisionAmong_54 : decode cX1_decisionAmong 54 = .ok (.invokestatic 55, 3) := by decide +kernel
theorem dX1_decisionAmong_57 : decode cX1_decisionAmong 57 = .ok (.iand, 1) := by decide +kernel
theorem dX1_decisionAmong_58 : decode cX1_decisionAmong 58 = .ok (.ifCond .eq 7, 3) := by decide +kernel
theorem dX1_decisionAmong_61 : decode cX1_decisionAmong 61 = .ok (.iconst 1, 1) := by decide +kernel
theorem dX1_decisionAmong_62 : decode cX1_decisionAmong 62 = .ok (.goto 4, 3) := by decide +kernel
theorem dX1_decisionAmong_65 : decode cX1_decisionAmong 65 = .ok (.iconst 0, 1) := by decide +kernel
theorem dX1_decisionAmong_66 : decode cX1_decisionAmong 66 = .ok (.ireturn, 1) := by decide +kernel
theorem dX1_decisionAmong_67 : decode cX1_decisionAmong 67 = .ok (.iload_n 2, 1) := by decide +kernel
theorem dX1_decisionAmong_68 : decode cX1_decisionAmong 68 = .ok (.ifCond .eq 7, 3) := by decide +kernel
theorem dX1_decisionAmong_71 : decode cX1_decisionAmong 71 = .ok (.iconst 1, 1) := by decide +kernel
theorem dX1_decisionAmong_72 : decode cX1_decisionAmong 72 = .ok (.goto 4, 3) := by decide +kernel
theorem dX1_decisionAmong_75 : decode cX1_decisionAmong 75 = .ok (.iconst 0, 1) := by decide +kernel
theorem dX1_decisionAmong_76 : decode cX1_decisionAmong 76 = .ok (.ireturn, 1) := by decide +kernel
theorem dX1_decisionAmong_77 : decode cX1_decisionAmong 77 = .ok (.iload_n 2, 1) := by decide +kernel
theorem dX1_decisionAmong_78 : decode cX1_decisionAmong 78 = .ok (.iload_n 1, 1) := by decide +kernel
theorem dX1_decisionAmong_79 : decode cX1_decisionAmong 79 = .ok (.if_icmp .eq 7, 3) := by decide +kernel
theorem dX1_decisionAmong_82 : decode cX1_decisionAmong 82 = .ok (.iconst 0, 1) := by decide +kernel
theorem dX1_decisionAmong_83 : decode cX1_decisionAmong 83 = .ok (.goto 4, 3) := by decide +kernel
theorem dX1_decisionAmong_86 : decode cX1_decisionAmong 86 = .ok (.iconst 1, 1) := by decide +kernel
theorem dX1_decisionAmong_87 : decode cX1_decisionAmong 87 = .ok (.ireturn, 1) := by decide +kernel
theorem dX1_decisionAmong_88 : decode cX1_decisionAmong 88 = .ok (.iload_n 1, 1) := by decide +kernel
theorem dX1_decisionAmong_89 : decode cX1_decisionAmong 89 = .ok (.invokestatic 60, 3) := by decide +kernel
theorem dX1_decisionAmong_92 : decode cX1_decisionAmong 92 = .ok (.iconst 1, 1) := by decide +kernel
theorem dX1_decisionAmong_93 : decode cX1_decisionAmong 93 = .ok (.if_icmp .le 7, 3) := by decide +kernel
theorem dX1_decisionAmong_96 : decode cX1_decisionAmong 96 = .ok (.iconst 3, 1) := by decide +kernel
theorem dX1_decisionAmong_97 : decode cX1_decisionAmong 97 = .ok (.goto 12, 3) := by decide +kernel
theorem dX1_decisionAmong_100 : decode cX1_decisionAmong 100 = .ok (.iload_n 2, 1) := by decide +kernel
theorem dX1_decisionAmong_101 : decode cX1_decisionAmong 101 = .ok (.ifCond .eq 7, 3) := by decide +kernel
theorem dX1_decisionAmong_104 : decode cX1_decisionAmong 104 = .ok (.iconst 1, 1) := by decide +kernel
theorem dX1_decisionAmong_105 : decode cX1_decisionAmong 105 = .ok (.goto 4, 3) := by decide +kernel
theorem dX1_decisionAmong_108 : decode cX1_decisionAmong 108 = .ok (.iconst 0, 1) := by decide +kernel
theorem dX1_decisionAmong_109 : decode cX1_decisionAmong 109 = .ok (.ireturn, 1) := by decide +kernel
theorem dX1_decisionAmong_110 : decode cX1_decisionAmong 110 = .ok (.iload_n 1, 1) := by decide +kernel
theorem dX1_decisionAmong_111 : decode cX1_decisionAmong 111 = .ok (.iload_n 2, 1) := by decide +kernel
theorem dX1_decisionAmong_112 : decode cX1_decisionAmong 112 = .ok (.iconst (-1), 1) := by decide +kernel
theorem dX1_decisionAmong_113 : decode cX1_decisionAmong 113 = .ok (.ixor, 1) := by decide +kernel
theorem dX1_decisionAmong_114 : decode cX1_decisionAmong 114 = .ok (.iand, 1) := by decide +kernel
theorem dX1_decisionAmong_115 : decode cX1_decisionAmong 115 = .ok (.invokestatic 60, 3) := by decide +kernel
theorem dX1_decisionAmong_118 : decode cX1_decisionAmong 118 = .ok (.iload_n 2, 1) := by decide +kernel
theorem dX1_decisionAmong_119 : decode cX1_decisionAmong 119 = .ok (.invokestatic 60, 3) := by decide +kernel
theorem dX1_decisionAmong_122 : decode cX1_decisionAmong 122 = .ok (.invokestatic 63, 3) := by decide +kernel
theorem dX1_decisionAmong_125 : decode cX1_decisionAmong 125 = .ok (.ireturn, 1) := by decide +kernel
theorem dX1_majority_0 : decode cX1_majority 0 = .ok (.iload_n 0, 1) := by decide +kernel
theorem dX1_majority_1 : decode cX1_majority 1 = .ok (.iload_n 1, 1) := by decide +kernel
theorem dX1_majority_2 : decode cX1_majority 2 = .ok (.if_icmp .ne 5, 3) := by decide +kernel
theorem dX1_majority_5 : decode cX1_majority 5 = .ok (.iconst 3, 1) := by decide +kernel
theorem dX1_majority_6 : decode cX1_majority 6 = .ok (.ireturn, 1) := by decide +kernel
theorem dX1_majority_7 : decode cX1_majority 7 = .ok (.iload_n 0, 1) := by decide +kernel
theorem dX1_majority_8 : decode cX1_majority 8 = .ok (.iload_n 1, 1) := by decide +kernel
theorem dX1_majority_9 : decode cX1_majority 9 = .ok (.if_icmp .le 7, 3) := by decide +kernel
theorem dX1_majority_12 : decode cX1_majority 12 = .ok (.iconst 0, 1) := by decide +kernel
theorem dX1_majority_13 : decode cX1_majority 13 = .ok (.goto 4, 3) := by decide +kernel
theorem dX1_majority_16 : decode cX1_majority 16 = .ok (.iconst 1, 1) := by decide +kernel
theorem dX1_majority_17 : decode cX1_majority 17 = .ok (.ireturn, 1) := by decide +kernel
theorem dX1_withBitInserted_0 : decode cX1_withBitInserted 0 = .ok (.iconst 1, 1) := by decide +kernel
theorem dX1_withBitInserted_1 : decode cX1_withBitInserted 1 = .ok (.iload_n 1, 1) := by decide +kernel
theorem dX1_withBitInserted_2 : decode cX1_withBitInserted 2 = .ok (.ishl, 1) := by decide +kernel
theorem dX1_withBitInserted_3 : decode cX1_withBitInserted 3 = .ok (.iconst 1, 1) := by decide +kernel
theorem dX1_withBitInserted_4 : decode cX1_withBitInserted 4 = .ok (.isub, 1) := by decide +kernel
theorem dX1_withBitInserted_5 : decode cX1_withBitInserted 5 = .ok (.istore_n 3, 1) := by decide +kernel
theorem dX1_withBitInserted_6 : decode cX1_withBitInserted 6 = .ok (.iload_n 0, 1) := by decide +kernel
theorem dX1_withBitInserted_7 : decode cX1_withBitInserted 7 = .ok (.iload_n 3, 1) := by decide +kernel
theorem dX1_withBitInserted_8 : decode cX1_withBitInserted 8 = .ok (.iand, 1) := by decide +kernel
theorem dX1_withBitInserted_9 : decode cX1_withBitInserted 9 = .ok (.iload_n 2, 1) := by decide +kernel
theorem dX1_withBitInserted_10 : decode cX1_withBitInserted 10 = .ok (.iload_n 1, 1) := by decide +kernel
theorem dX1_withBitInserted_11 : decode cX1_withBitInserted 11 = .ok (.ishl, 1) := by decide +kernel
theorem dX1_withBitInserted_12 : decode cX1_withBitInserted 12 = .ok (.ior, 1) := by decide +kernel
theorem dX1_withBitInserted_13 : decode cX1_withBitInserted 13 = .ok (.iload_n 0, 1) := by decide +kernel
theorem dX1_withBitInserted_14 : decode cX1_withBitInserted 14 = .ok (.iload_n 3, 1) := by decide +kernel
theorem dX1_withBitInserted_15 : decode cX1_withBitInserted 15 = .ok (.iconst (-1), 1) := by decide +kernel
theorem dX1_withBitInserted_16 : decode cX1_withBitInserted 16 = .ok (.ixor, 1) := by decide +kernel
theorem dX1_withBitInserted_17 : decode cX1_withBitInserted 17 = .ok (.iand, 1) := by decide +kernel
theorem dX1_withBitInserted_18 : decode cX1_withBitInserted 18 = .ok (.iconst 1, 1) := by decide +kernel
theorem dX1_withBitInserted_19 : decode cX1_withBitInserted 19 = .ok (.ishl, 1) := by decide +kernel
theorem dX1_withBitInserted_20 : decode cX1_withBitInserted 20 = .ok (.ior, 1) := by decide +kernel
theorem dX1_withBitInserted_21 : decode cX1_withBitInserted 21 = .ok (.ireturn, 1) := by decide +kernel
theorem dX1_withBitDropped_0 : decode cX1_withBitDropped 0 = .ok (.iconst 1, 1) := by decide +kernel
theorem dX1_withBitDropped_1 : decode cX1_withBitDropped 1 = .ok (.iload_n 1, 1) := by decide +kernel
theorem dX1_withBitDropped_2 : decode cX1_withBitDropped 2 = .ok (.ishl, 1) := by decide +kernel
theorem dX1_withBitDropped_3 : decode cX1_withBitDropped 3 = .ok (.iconst 1, 1) := by decide +kernel
theorem dX1_withBitDropped_4 : decode cX1_withBitDropped 4 = .ok (.isub, 1) := by decide +kernel
theorem dX1_withBitDropped_5 : decode cX1_withBitDropped 5 = .ok (.istore_n 2, 1) := by decide +kernel
theorem dX1_withBitDropped_6 : decode cX1_withBitDropped 6 = .ok (.iload_n 0, 1) := by decide +kernel
theorem dX1_withBitDropped_7 : decode cX1_withBitDropped 7 = .ok (.iload_n 2, 1) := by decide +kernel
theorem dX1_withBitDropped_8 : decode cX1_withBitDropped 8 = .ok (.iand, 1) := by decide +kernel
theorem dX1_withBitDropped_9 : decode cX1_withBitDropped 9 = .ok (.iload_n 0, 1) := by decide +kernel
theorem dX1_withBitDropped_10 : decode cX1_withBitDropped 10 = .ok (.iconst 1, 1) := by decide +kernel
theorem dX1_withBitDropped_11 : decode cX1_withBitDropped 11 = .ok (.ishr, 1) := by decide +kernel
theorem dX1_withBitDropped_12 : decode cX1_withBitDropped 12 = .ok (.iload_n 2, 1) := by decide +kernel
theorem dX1_withBitDropped_13 : decode cX1_withBitDropped 13 = .ok (.iconst (-1), 1) := by decide +kernel
theorem dX1_withBitDropped_14 : decode cX1_withBitDropped 14 = .ok (.ixor, 1) := by decide +kernel
theorem dX1_withBitDropped_15 : decode cX1_withBitDropped 15 = .ok (.iand, 1) := by decide +kernel
theorem dX1_withBitDropped_16 : decode cX1_withBitDropped 16 = .ok (.ior, 1) := by decide +kernel
theorem dX1_withBitDropped_17 : decode cX1_withBitDropped 17 = .ok (.ireturn, 1) := by decide +kernel
theorem dX2_init_0 : decode cX2_init 0 = .ok (.aload_n 0, 1) := by decide +kernel
theorem dX2_init_1 : decode cX2_init 1 = .ok (.invokespecial 3, 3) := by decide +kernel
theorem dX2_init_4 : decode cX2_init 4 = .ok (.aload_n 0, 1) := by decide +kernel
theorem dX2_init_5 : decode cX2_init 5 = .ok (.sipush 240, 3) := by decide +kernel
theorem dX2_init_8 : decode cX2_init 8 = .ok (.newarray .char, 2) := by decide +kernel
theorem dX2_init_10 : decode cX2_init 10 = .ok (.putfield 9, 3) := by decide +kernel
theorem dX2_init_13 : decode cX2_init 13 = .ok (.aload_n 0, 1) := by decide +kernel
theorem dX2_init_14 : decode cX2_init 14 = .ok (.new 15, 3) := by decide +kernel
theorem dX2_init_17 : decode cX2_init 17 = .ok (.dup, 1) := by decide +kernel
theorem dX2_init_18 : decode cX2_init 18 = .ok (.invokespecial 17, 3) := by decide +kernel
theorem dX2_init_21 : decode cX2_init 21 = .ok (.putfield 18, 3) := by decide +kernel
theorem dX2_init_24 : decode cX2_init 24 = .ok (.aload_n 0, 1) := by decide +kernel
theorem dX2_init_25 : decode cX2_init 25 = .ok (.new 15, 3) := by decide +kernel
theorem dX2_init_28 : decode cX2_init 28 = .ok (.dup, 1) := by decide +kernel
theorem dX2_init_29 : decode cX2_init 29 = .ok (.invokespecial 17, 3) := by decide +kernel
theorem dX2_init_32 : decode cX2_init 32 = .ok (.putfield 22, 3) := by decide +kernel
theorem dX2_init_35 : decode cX2_init 35 = .ok (.aload_n 0, 1) := by decide +kernel
theorem dX2_init_36 : decode cX2_init 36 = .ok (.aload_n 0, 1) := by decide +kernel
theorem dX2_init_37 : decode cX2_init 37 = .ok (.getfield 18, 3) := by decide +kernel
theorem dX2_init_40 : decode cX2_init 40 = .ok (.putfield 25, 3) := by decide +kernel
theorem dX2_init_43 : decode cX2_init 43 = .ok (.aload_n 0, 1) := by decide +kernel
theorem dX2_init_44 : decode cX2_init 44 = .ok (.iconst 0, 1) := by decide +kernel
theorem dX2_init_45 : decode cX2_init 45 = .ok (.putfield 28, 3) := by decide +kernel
theorem dX2_init_48 : decode cX2_init 48 = .ok (.aload_n 0, 1) := by decide +kernel
theorem dX2_init_49 : decode cX2_init 49 = .ok (.iconst 0, 1) := by decide +kernel
theorem dX2_init_50 : decode cX2_init 50 = .ok (.putfield 32, 3) := by decide +kernel
theorem dX2_init_53 : decode cX2_init 53 = .ok (.return_, 1) := by decide +kernel
theorem dX2_length_0 : decode cX2_length 0 = .ok (.aload_n 0, 1) := by decide +kernel
theorem dX2_length_1 : decode cX2_length 1 = .ok (.getfield 28, 3) := by decide +kernel
theorem dX2_length_4 : decode cX2_length 4 = .ok (.ireturn, 1) := by decide +kernel
theorem dX2_oldDraft_0 : decode cX2_oldDraft 0 = .ok (.aload_n 0, 1) := by decide +kernel
theorem dX2_oldDraft_1 : decode cX2_oldDraft 1 = .ok (.getfield 18, 3) := by decide +kernel
theorem dX2_oldDraft_4 : decode cX2_oldDraft 4 = .ok (.areturn, 1) := by decide +kernel
theorem dX2_newDraft_0 : decode cX2_newDraft 0 = .ok (.aload_n 0, 1) := by decide +kernel
theorem dX2_newDraft_1 : decode cX2_newDraft 1 = .ok (.getfield 22, 3) := by decide +kernel
theorem dX2_newDraft_4 : decode cX2_newDraft 4 = .ok (.areturn, 1) := by decide +kernel
theorem dX2_add_0 : decode cX2_add 0 = .ok (.aload_n 0, 1) := by decide +kernel
theorem dX2_add_1 : decode cX2_add 1 = .ok (.getfield 28, 3) := by decide +kernel
theorem dX2_add_4 : decode cX2_add 4 = .ok (.ifCond .lt 15, 3) := by decide +kernel
theorem dX2_add_7 : decode cX2_add 7 = .ok (.aload_n 0, 1) := by decide +kernel
theorem dX2_add_8 : decode cX2_add 8 = .ok (.getfield 28, 3) := by decide +kernel
theorem dX2_add_11 : decode cX2_add 11 = .ok (.aload_n 0, 1) := by decide +kernel
theorem dX2_add_12 : decode cX2_add 12 = .ok (.getfield 9, 3) := by decide +kernel
theorem dX2_add_15 : decode cX2_add 15 = .ok (.arraylength, 1) := by decide +kernel
theorem dX2_add_16 : decode cX2_add 16 = .ok (.if_icmp .lt 5, 3) := by decide +kernel
theorem dX2_add_19 : decode cX2_add 19 = .ok (.iconst 0, 1) := by decide +kernel
theorem dX2_add_20 : decode cX2_add 20 = .ok (.ireturn, 1) := by decide +kernel
theorem dX2_add_21 : decode cX2_add 21 = .ok (.aload_n 0, 1) := by decide +kernel
theorem dX2_add_22 : decode cX2_add 22 = .ok (.getfield 9, 3) := by decide +kernel
theorem dX2_add_25 : decode cX2_add 25 = .ok (.aload_n 0, 1) := by decide +kernel
theorem dX2_add_26 : decode cX2_add 26 = .ok (.getfield 28, 3) := by decide +kernel
theorem dX2_add_29 : decode cX2_add 29 = .ok (.iload_n 1, 1) := by decide +kernel
theorem dX2_add_30 : decode cX2_add 30 = .ok (.castore, 1) := by decide +kernel
theorem dX2_add_31 : decode cX2_add 31 = .ok (.aload_n 0, 1) := by decide +kernel
theorem dX2_add_32 : decode cX2_add 32 = .ok (.dup, 1) := by decide +kernel
theorem dX2_add_33 : decode cX2_add 33 = .ok (.getfield 28, 3) := by decide +kernel
theorem dX2_add_36 : decode cX2_add 36 = .ok (.iconst 1, 1) := by decide +kernel
theorem dX2_add_37 : decode cX2_add 37 = .ok (.iadd, 1) := by decide +kernel
theorem dX2_add_38 : decode cX2_add 38 = .ok (.putfield 28, 3) := by decide +kernel
theorem dX2_add_41 : decode cX2_add 41 = .ok (.iconst 1, 1) := by decide +kernel
theorem dX2_add_42 : decode cX2_add 42 = .ok (.ireturn, 1) := by decide +kernel
theorem dX2_empty_0 : decode cX2_empty 0 = .ok (.aload_n 0, 1) := by decide +kernel
theorem dX2_empty_1 : decode cX2_empty 1 = .ok (.iconst 0, 1) := by decide +kernel
theorem dX2_empty_2 : decode cX2_empty 2 = .ok (.putfield 28, 3) := by decide +kernel
theorem dX2_empty_5 : decode cX2_empty 5 = .ok (.return_, 1) := by decide +kernel
theorem dX2_firstMalformed_0 : decode cX2_firstMalformed 0 = .ok (.aload_n 0, 1) := by decide +kernel
theorem dX2_firstMalformed_1 : decode cX2_firstMalformed 1 = .ok (.getfield 18, 3) := by decide +kernel
theorem dX2_firstMalformed_4 : decode cX2_firstMalformed 4 = .ok (.invokevirtual 35, 3) := by decide +kernel
theorem dX2_firstMalformed_7 : decode cX2_firstMalformed 7 = .ok (.aload_n 0, 1) := by decide +kernel
theorem dX2_firstMalformed_8 : decode cX2_firstMalformed 8 = .ok (.getfield 22, 3) := by decide +kernel
theorem dX2_firstMalformed_11 : decode cX2_firstMalformed 11 = .ok (.invokevirtual 35, 3) := by decide +kernel
theorem dX2_firstMalformed_14 : decode cX2_firstMalformed 14 = .ok (.aload_n 0, 1) := by decide +kernel
theorem dX2_firstMalformed_15 : decode cX2_firstMalformed 15 = .ok (.aload_n 0, 1) := by decide +kernel
theorem dX2_firstMalformed_16 : decode cX2_firstMalformed 16 = .ok (.getfield 18, 3) := by decide +kernel
theorem dX2_firstMalformed_19 : decode cX2_firstMalformed 19 = .ok (.putfield 25, 3) := by decide +kernel
theorem dX2_firstMalformed_22 : decode cX2_firstMalformed 22 = .ok (.aload_n 0, 1) := by decide +kernel
theorem dX2_firstMalformed_23 : decode cX2_firstMalformed 23 = .ok (.iconst 0, 1) := by decide +kernel
theorem dX2_firstMalformed_24 : decode cX2_firstMalformed 24 = .ok (.putfield 32, 3) := by decide +kernel
theorem dX2_firstMalformed_27 : decode cX2_firstMalformed 27 = .ok (.iconst 0, 1) := by decide +kernel
theorem dX2_firstMalformed_28 : decode cX2_firstMalformed 28 = .ok (.istore_n 1, 1) := by decide +kernel
theorem dX2_firstMalformed_29 : decode cX2_firstMalformed 29 = .ok (.iload_n 1, 1) := by decide +kernel
theorem dX2_firstMalformed_30 : decode cX2_firstMalformed 30 = .ok (.sipush 240, 3) := by decide +kernel
theorem dX2_firstMalformed_33 : decode cX2_firstMalformed 33 = .ok (.if_icmp .ge 43, 3) := by decide +kernel
theorem dX2_firstMalformed_36 : decode cX2_firstMalformed 36 = .ok (.aload_n 0, 1) := by decide +kernel
theorem dX2_firstMalformed_37 : decode cX2_firstMalformed 37 = .ok (.getfield 32, 3) := by decide +kernel
theorem dX2_firstMalformed_40 : decode cX2_firstMalformed 40 = .ok (.aload_n 0, 1) := by decide +kernel
theorem dX2_firstMalformed_41 : decode cX2_firstMalformed 41 = .ok (.getfield 28, 3) := by decide +kernel
theorem dX2_firstMalformed_44 : decode cX2_firstMalformed 44 = .ok (.if_icmp .ge 32, 3) := by decide +kernel
theorem dX2_firstMalformed_47 : decode cX2_firstMalformed 47 = .ok (.aload_n 0, 1) := by decide +kernel
theorem dX2_firstMalformed_48 : decode cX2_firstMalformed 48 = .ok (.getfield 32, 3) := by decide +kernel
theorem dX2_firstMalformed_51 : decode cX2_firstMalformed 51 = .ok (.istore_n 2, 1) := by decide +kernel
theorem dX2_firstMalformed_52 : decode cX2_firstMalformed 52 = .ok (.aload_n 0, 1) := by decide +kernel
theorem dX2_firstMalformed_53 : decode cX2_firstMalformed 53 = .ok (.invokevirtual 38, 3) := by decide +kernel
theorem dX2_firstMalformed_56 : decode cX2_firstMalformed 56 = .ok (.ifCond .eq 12, 3) := by decide +kernel
theorem dX2_firstMalformed_59 : decode cX2_firstMalformed 59 = .ok (.aload_n 0, 1) := by decide +kernel
theorem dX2_firstMalformed_60 : decode cX2_firstMalformed 60 = .ok (.ldc 42, 2) := by decide +kernel
theorem dX2_firstMalformed_62 : decode cX2_firstMalformed 62 = .ok (.invokevirtual 44, 3) := by decide +kernel
theorem dX2_firstMalformed_65 : decode cX2_firstMalformed 65 = .ok (.ifCond .ne 5, 3) := by decide +kernel
theorem dX2_firstMalformed_68 : decode cX2_firstMalformed 68 = .ok (.iload_n 2, 1) := by decide +kernel
theorem dX2_firstMalformed_69 : decode cX2_firstMalformed 69 = .ok (.ireturn, 1) := by decide +kernel
theorem dX2_firstMalformed_70 : decode cX2_firstMalformed 70 = .ok (.iinc 1 1, 3) := by decide +kernel
theorem dX2_firstMalformed_73 : decode cX2_firstMalformed 73 = .ok (.goto (-44), 3) := by decide +kernel
theorem dX2_firstMalformed_76 : decode cX2_firstMalformed 76 = .ok (.bipush (-4), 2) := by decide +kernel
theorem dX2_firstMalformed_78 : decode cX2_firstMalformed 78 = .ok (.ireturn, 1) := by decide +kernel
theorem dX2_readStatement_0 : decode cX2_readStatement 0 = .ok (.aload_n 0, 1) := by decide +kernel
theorem dX2_readStatement_1 : decode cX2_readStatement 1 = .ok (.ldc 48, 2) := by decide +kernel
theorem dX2_readStatement_3 : decode cX2_readStatement 3 = .ok (.invokevirtual 44, 3) := by decide +kernel
theorem dX2_readStatement_6 : decode cX2_readStatement 6 = .ok (.ifCond .eq 13, 3) := by decide +kernel
theorem dX2_readStatement_9 : decode cX2_readStatement 9 = .ok (.aload_n 0, 1) := by decide +kernel
theorem dX2_readStatement_10 : decode cX2_readStatement 10 = .ok (.aload_n 0, 1) := by decide +kernel
theorem dX2_readStatement_11 : decode cX2_readStatement 11 = .ok (.getfield 18, 3) := by decide +kernel
theorem dX2_readStatement_14 : decode cX2_readStatement 14 = .ok (.putfield 25, 3) := by decide +kernel
theorem dX2_readStatement_17 : decode cX2_readStatement 17 = .ok (.iconst 1, 1) := by decide +kernel
theorem dX2_readStatement_18 : decode cX2_readStatement 18 = .ok (.ireturn, 1) := by decide +kernel
theorem dX2_readStatement_19 : decode cX2_readStatement 19 = .ok (.aload_n 0, 1) := by decide +kernel
theorem dX2_readStatement_20 : decode cX2_readStatement 20 = .ok (.ldc 50, 2) := by decide +kernel
theorem dX2_readStatement_22 : decode cX2_readStatement 22 = .ok (.invokevirtual 44, 3) := by decide +kernel
theorem dX2_readStatement_25 : decode cX2_readStatement 25 = .ok (.ifCond .eq 13, 3) := by decide +kernel
theorem dX2_readStatement_28 : decode cX2_readStatement 28 = .ok (.aload_n 0, 1) := by decide +kernel
theorem dX2_readStatement_29 : decode cX2_readStatement 29 = .ok (.aload_n 0, 1) := by decide +kernel
theorem dX2_readStatement_30 : decode cX2_readStatement 30 = .ok (.getfield 22, 3) := by decide +kernel
theorem dX2_readStatement_33 : decode cX2_readStatement 33 = .ok (.putfield 25, 3) := by decide +kernel
theorem dX2_readStatement_36 : decode cX2_readStatement 36 = .ok (.iconst 1, 1) := by decide +kernel
theorem dX2_readStatement_37 : decode cX2_readStatement 37 = .ok (.ireturn, 1) := by decide +kernel
theorem dX2_readStatement_38 : decode cX2_readStatement 38 = .ok (.aload_n 0, 1) := by decide +kernel
theorem dX2_readStatement_39 : decode cX2_readStatement 39 = .ok (.ldc 52, 2) := by decide +kernel
theorem dX2_readStatement_41 : decode cX2_readStatement 41 = .ok (.invokevirtual 44, 3) := by decide +kernel
theorem dX2_readStatement_44 : decode cX2_readStatement 44 = .ok (.ifCond .eq 8, 3) := by decide +kernel
theorem dX2_readStatement_47 : decode cX2_readStatement 47 = .ok (.aload_n 0, 1) := by decide +kernel
theorem dX2_readStatement_48 : decode cX2_readStatement 48 = .ok (.invokevirtual 54, 3) := by decide +kernel
theorem dX2_readStatement_51 : decode cX2_readStatement 51 = .ok (.ireturn, 1) := by decide +kernel
theorem dX2_readStatement_52 : decode cX2_readStatement 52 = .ok (.aload_n 0, 1) := by decide +kernel
theorem dX2_readStatement_53 : decode cX2_readStatement 53 = .ok (.ldc 57, 2) := by decide +kernel
theorem dX2_readStatement_55 : decode cX2_readStatement 55 = .ok (.invokevirtual 44, 3) := by decide +kernel
theorem dX2_readStatement_58 : decode cX2_readStatement 58 = .ok (.ifCond .eq 9, 3) := by decide +kernel
theorem dX2_readStatement_61 : decode cX2_readStatement 61 = .ok (.aload_n 0, 1) := by decide +kernel
theorem dX2_readStatement_62 : decode cX2_readStatement 62 = .ok (.iconst 0, 1) := by decide +kernel
theorem dX2_readStatement_63 : decode cX2_readStatement 63 = .ok (.invokevirtual 59, 3) := by decide +kernel
theorem dX2_readStatement_66 : decode cX2_readStatement 66 = .ok (.ireturn, 1) := by decide +kernel
theorem dX2_readStatement_67 : decode cX2_readStatement 67 = .ok (.aload_n 0, 1) := by decide +kernel
theorem dX2_readStatement_68 : decode cX2_readStatement 68 = .ok (.ldc 63, 2) := by decide +kernel
theorem dX2_readStatement_70 : decode cX2_readStatement 70 = .ok (.invokevirtual 44, 3) := by decide +kernel
theorem dX2_readStatement_73 : decode cX2_readStatement 73 = .ok (.ifCond .eq 15, 3) := by decide +kernel
theorem dX2_readStatement_76 : decode cX2_readStatement 76 = .ok (.aload_n 0, 1) := by decide +kernel
theorem dX2_readStatement_77 : decode cX2_readStatement 77 = .ok (.iconst 1, 1) := by decide +kernel
theorem dX2_readStatement_78 : decode cX2_readStatement 78 = .ok (.invokevirtual 59, 3) := by decide +kernel
theorem dX2_readStatement_81 : decode cX2_readStatement 81 = .ok (.ifCond .eq 7, 3) := by decide +kernel
theorem dX2_readStatement_84 : decode cX2_readStatement 84 = .ok (.iconst 1, 1) := by decide +kernel
theorem dX2_readStatement_85 : decode cX2_readStatement 85 = .ok (.goto 4, 3) := by decide +kernel
theorem dX2_readStatement_88 : decode cX2_readStatement 88 = .ok (.iconst 0, 1) := by decide +kernel
theorem dX2_readStatement_89 : decode cX2_readStatement 89 = .ok (.ireturn, 1) := by decide +kernel
theorem dX2_readAlgorithm_0 : decode cX2_readAlgorithm 0 = .ok (.bipush (-4), 2) := by decide +kernel
theorem dX2_readAlgorithm_2 : decode cX2_readAlgorithm 2 = .ok (.istore_n 1, 1) := by decide +kernel
theorem dX2_readAlgorithm_3 : decode cX2_readAlgorithm 3 = .ok (.aload_n 0, 1) := by decide +kernel
theorem dX2_readAlgorithm_4 : decode cX2_readAlgorithm 4 = .ok (.ldc 65, 2) := by decide +kernel
theorem dX2_readAlgorithm_6 : decode cX2_readAlgorithm 6 = .ok (.invokevirtual 44, 3) := by decide +kernel
theorem dX2_readAlgorithm_9 : decode cX2_readAlgorithm 9 = .ok (.ifCond .eq 8, 3) := by decide +kernel
theorem dX2_readAlgorithm_12 : decode cX2_readAlgorithm 12 = .ok (.iconst 0, 1) := by decide +kernel
theorem dX2_readAlgorithm_13 : decode cX2_readAlgorithm 13 = .ok (.istore_n 1, 1) := by decide +kernel
theorem dX2_readAlgorithm_14 : decode cX2_readAlgorithm 14 = .ok (.goto 56, 3) := by decide +kernel
theorem dX2_readAlgorithm_17 : decode cX2_readAlgorithm 17 = .ok (.aload_n 0, 1) := by decide +kernel
theorem dX2_readAlgorithm_18 : decode cX2_readAlgorithm 18 = .ok (.ldc 67, 2) := by decide +kernel
theorem dX2_readAlgorithm_20 : decode cX2_readAlgorithm 20 = .ok (.invokevirtual 44, 3) := by decide +kernel
theorem dX2_readAlgorithm_23 : decode cX2_readAlgorithm 23 = .ok (.ifCond .eq 8, 3) := by decide +kernel
theorem dX2_readAlgorithm_26 : decode cX2_readAlgorithm 26 = .ok (.iconst 1, 1) := by decide +kernel
theorem dX2_readAlgorithm_27 : decode cX2_readAlgorithm 27 = .ok (.istore_n 1, 1) := by decide +kernel
theorem dX2_readAlgorithm_28 : decode cX2_readAlgorithm 28 = .ok (.goto 42, 3) := by decide +kernel
theorem dX2_readAlgorithm_31 : decode cX2_readAlgorithm 31 = .ok (.aload_n 0, 1) := by decide +kernel
theorem dX2_readAlgorithm_32 : decode cX2_readAlgorithm 32 = .ok (.ldc 69, 2) := by decide +kernel
theorem dX2_readAlgorithm_34 : decode cX2_readAlgorithm 34 = .ok (.invokevirtual 44, 3) := by decide +kernel
theorem dX2_readAlgorithm_37 : decode cX2_readAlgorithm 37 = .ok (.ifCond .eq 8, 3) := by decide +kernel
theorem dX2_readAlgorithm_40 : decode cX2_readAlgorithm 40 = .ok (.iconst 2, 1) := by decide +kernel
theorem dX2_readAlgorithm_41 : decode cX2_readAlgorithm 41 = .ok (.istore_n 1, 1) := by decide +kernel
theorem dX2_readAlgorithm_42 : decode cX2_readAlgorithm 42 = .ok (.goto 28, 3) := by decide +kernel
theorem dX2_readAlgorithm_45 : decode cX2_readAlgorithm 45 = .ok (.aload_n 0, 1) := by decide +kernel
theorem dX2_readAlgorithm_46 : decode cX2_readAlgorithm 46 = .ok (.ldc 71, 2) := by decide +kernel
theorem dX2_readAlgorithm_48 : decode cX2_readAlgorithm 48 = .ok (.invokevirtual 44, 3) := by decide +kernel
theorem dX2_readAlgorithm_51 : decode cX2_readAlgorithm 51 = .ok (.ifCond .eq 8, 3) := by decide +kernel
theorem dX2_readAlgorithm_54 : decode cX2_readAlgorithm 54 = .ok (.iconst 3, 1) := by decide +kernel
theorem dX2_readAlgorithm_55 : decode cX2_readAlgorithm 55 = .ok (.istore_n 1, 1) := by decide +kernel
theorem dX2_readAlgorithm_56 : decode cX2_readAlgorithm 56 = .ok (.goto 14, 3) := by decide +kernel
theorem dX2_readAlgorithm_59 : decode cX2_readAlgorithm 59 = .ok (.aload_n 0, 1) := by decide +kernel
theorem dX2_readAlgorithm_60 : decode cX2_readAlgorithm 60 = .ok (.ldc 73, 2) := by decide +kernel
theorem dX2_readAlgorithm_62 : decode cX2_readAlgorithm 62 = .ok (.invokevirtual 44, 3) := by decide +kernel
theorem dX2_readAlgorithm_65 : decode cX2_readAlgorithm 65 = .ok (.ifCond .eq 5, 3) := by decide +kernel
theorem dX2_readAlgorithm_68 : decode cX2_readAlgorithm 68 = .ok (.iconst 4, 1) := by decide +kernel
theorem dX2_readAlgorithm_69 : decode cX2_readAlgorithm 69 = .ok (.istore_n 1, 1) := by decide +kernel
theorem dX2_readAlgorithm_70 : decode cX2_readAlgorithm 70 = .ok (.iload_n 1, 1) := by decide +kernel
theorem dX2_readAlgorithm_71 : decode cX2_readAlgorithm 71 = .ok (.bipush (-4), 2) := by decide +kernel
theorem dX2_readAlgorithm_73 : decode cX2_readAlgorithm 73 = .ok (.if_icmp .ne 5, 3) := by decide +kernel
theorem dX2_readAlgorithm_76 : decode cX2_readAlgorithm 76 = .ok (.iconst 0, 1) := by decide +kernel
theorem dX2_readAlgorithm_77 : decode cX2_readAlgorithm 77 = .ok (.ireturn, 1) := by decide +kernel
theorem dX2_readAlgorithm_78 : decode cX2_readAlgorithm 78 = .ok (.aload_n 0, 1) := by decide +kernel
theorem dX2_readAlgorithm_79 : decode cX2_readAlgorithm 79 = .ok (.getfield 25, 3) := by decide +kernel
theorem dX2_readAlgorithm_82 : decode cX2_readAlgorithm 82 = .ok (.iload_n 1, 1) := by decide +kernel
theorem dX2_readAlgorithm_83 : decode cX2_readAlgorithm 83 = .ok (.invokevirtual 75, 3) := by decide +kernel
theorem dX2_readAlgorithm_86 : decode cX2_readAlgorithm 86 = .ok (.iconst 1, 1) := by decide +kernel
theorem dX2_readAlgorithm_87 : decode cX2_readAlgorithm 87 = .ok (.ireturn, 1) := by decide +kernel
theorem dX2_readRule_0 : decode cX2_readRule 0 = .ok (.aload_n 0, 1) := by decide +kernel
theorem dX2_readRule_1 : decode cX2_readRule 1 = .ok (.getfield 25, 3) := by decide +kernel
theorem dX2_readRule_4 : decode cX2_readRule 4 = .ok (.invokevirtual 78, 3) := by decide +kernel
theorem dX2_readRule_7 : decode cX2_readRule 7 = .ok (.istore_n 2, 1) := by decide +kernel
theorem dX2_readRule_8 : decode cX2_readRule 8 = .ok (.iload_n 2, 1) := by decide +kernel
theorem dX2_readRule_9 : decode cX2_readRule 9 = .ok (.bipush 8, 2) := by decide +kernel
theorem dX2_readRule_11 : decode cX2_readRule 11 = .ok (.if_icmp .lt 5, 3) := by decide +kernel
theorem dX2_readRule_14 : decode cX2_readRule 14 = .ok (.iconst 0, 1) := by decide +kernel
theorem dX2_readRule_15 : decode cX2_readRule 15 = .ok (.ireturn, 1) := by decide +kernel
theorem dX2_readRule_16 : decode cX2_readRule 16 = .ok (.aload_n 0, 1) := by decide +kernel
theorem dX2_readRule_17 : decode cX2_readRule 17 = .ok (.getfield 25, 3) := by decide +kernel
theorem dX2_readRule_20 : decode cX2_readRule 20 = .ok (.iload_n 2, 1) := by decide +kernel
theorem dX2_readRule_21 : decode cX2_readRule 21 = .ok (.iload_n 1, 1) := by decide +kernel
theorem dX2_readRule_22 : decode cX2_readRule 22 = .ok (.invokevirtual 82, 3) := by decide +kernel
theorem dX2_readRule_25 : decode cX2_readRule 25 = .ok (.iconst 0, 1) := by decide +kernel
theorem dX2_readRule_26 : decode cX2_readRule 26 = .ok (.istore_n 3, 1) := by decide +kernel
theorem dX2_readRule_27 : decode cX2_readRule 27 = .ok (.iconst 0, 1) := by decide +kernel
theorem dX2_readRule_28 : decode cX2_readRule 28 = .ok (.istore 4, 2) := by decide +kernel
theorem dX2_readRule_30 : decode cX2_readRule 30 = .ok (.iload 4, 2) := by decide +kernel
theorem dX2_readRule_32 : decode cX2_readRule 32 = .ok (.iconst 4, 1) := by decide +kernel
theorem dX2_readRule_33 : decode cX2_readRule 33 = .ok (.if_icmp .ge 78, 3) := by decide +kernel
theorem dX2_readRule_36 : decode cX2_readRule 36 = .ok (.aload_n 0, 1) := by decide +kernel
theorem dX2_readRule_37 : decode cX2_readRule 37 = .ok (.ldc 86, 2) := by decide +kernel
theorem dX2_readRule_39 : decode cX2_readRule 39 = .ok (.invokevirtual 44, 3) := by decide +kernel
theorem dX2_readRule_42 : decode cX2_readRule 42 = .ok (.ifCond .eq 69, 3) := by decide +kernel
theorem dX2_readRule_45 : decode cX2_readRule 45 = .ok (.aload_n 0, 1) := by decide +kernel
theorem dX2_readRule_46 : decode cX2_readRule 46 = .ok (.invokevirtual 88, 3) := by decide +kernel
theorem dX2_readRule_49 : decode cX2_readRule 49 = .ok (.istore 5, 2) := by decide +kernel
theorem dX2_readRule_51 : decode cX2_readRule 51 = .ok (.iload 5, 2) := by decide +kernel
theorem dX2_readRule_53 : decode cX2_readRule 53 = .ok (.ifCond .lt 12, 3) := by decide +kernel
theorem dX2_readRule_56 : decode cX2_readRule 56 = .ok (.iload_n 3, 1) := by decide +kernel
theorem dX2_readRule_57 : decode cX2_readRule 57 = .ok (.iload 5, 2) := by decide +kernel
theorem dX2_readRule_59 : decode cX2_readRule 59 = .ok (.ishr, 1) := by decide +kernel
theorem dX2_readRule_60 : decode cX2_readRule 60 = .ok (.iconst 1, 1) := by decide +kernel
theorem dX2_readRule_61 : decode cX2_readRule 61 = .ok (.iand, 1) := by decide +kernel
theorem dX2_readRule_62 : decode cX2_readRule 62 = .ok (.ifCond .eq 5, 3) := by decide +kernel
theorem dX2_readRule_65 : decode cX2_readRule 65 = .ok (.iconst 0, 1) := by decide +kernel
theorem dX2_readRule_66 : decode cX2_readRule 66 = .ok (.ireturn, 1) := by decide +kernel
theorem dX2_readRule_67 : decode cX2_readRule 67 = .ok (.iload_n 3, 1) := by decide +kernel
theorem dX2_readRule_68 : decode cX2_readRule 68 = .ok (.iconst 1, 1) := by decide +kernel
theorem dX2_readRule_69 : decode cX2_readRule 69 = .ok (.iload 5, 2) := by decide +kernel
theorem dX2_readRule_71 : decode cX2_readRule 71 = .ok (.ishl, 1) := by decide +kernel
theorem dX2_readRule_72 : decode cX2_readRule 72 = .ok (.ior, 1) := by decide +kernel
theorem dX2_readRule_73 : decode cX2_readRule 73 = .ok (.istore_n 3, 1) := by decide +kernel
theorem dX2_readRule_74 : decode cX2_readRule 74 = .ok (.aload_n 0, 1) := by decide +kernel
theorem dX2_readRule_75 : decode cX2_readRule 75 = .ok (.getstatic 91, 3) := by decide +kernel
theorem dX2_readRule_78 : decode cX2_readRule 78 = .ok (.iload 5, 2) := by decide +kernel
theorem dX2_readRule_80 : decode cX2_readRule 80 = .ok (.iaload, 1) := by decide +kernel
theorem dX2_readRule_81 : decode cX2_readRule 81 = .ok (.invokevirtual 95, 3) := by decide +kernel
theorem dX2_readRule_84 : decode cX2_readRule 84 = .ok (.istore 6, 2) := by decide +kernel
theorem dX2_readRule_86 : decode cX2_readRule 86 = .ok (.iload 6, 2) := by decide +kernel
theorem dX2_readRule_88 : decode cX2_readRule 88 = .ok (.ifCond .ne 5, 3) := by decide +kernel
theorem dX2_readRule_91 : decode cX2_readRule 91 = .ok (.iconst 0, 1) := by decide +kernel
theorem dX2_readRule_92 : decode cX2_readRule 92 = .ok (.ireturn, 1) := by decide +kernel
theorem dX2_readRule_93 : decode cX2_readRule 93 = .ok (.aload_n 0, 1) := by decide +kernel
theorem dX2_readRule_94 : decode cX2_readRule 94 = .ok (.getfield 25, 3) := by decide +kernel
theorem dX2_readRule_97 : decode cX2_readRule 97 = .ok (.iload_n 2, 1) := by decide +kernel
theorem dX2_readRule_98 : decode cX2_readRule 98 = .ok (.iload 5, 2) := by decide +kernel
theorem dX2_readRule_100 : decode cX2_readRule 100 = .ok (.iload 6, 2) := by decide +kernel
theorem dX2_readRule_102 : decode cX2_readRule 102 = .ok (.invokevirtual 99, 3) := by decide +kernel
theorem dX2_readRule_105 : decode cX2_readRule 105 = .ok (.iinc 4 1, 3) := by decide +kernel
theorem dX2_readRule_108 : decode cX2_readRule 108 = .ok (.goto (-78), 3) := by decide +kernel
theorem dX2_readRule_111 : decode cX2_readRule 111 = .ok (.iconst 1, 1) := by decide +kernel
theorem dX2_readRule_112 : decode cX2_readRule 112 = .ok (.ireturn, 1) := by decide +kernel
theorem dX2_readAttribute_0 : decode cX2_readAttribute 0 = .ok (.iconst 0, 1) := by decide +kernel
theorem dX2_readAttribute_1 : decode cX2_readAttribute 1 = .ok (.istore_n 1, 1) := by decide +kernel
theorem dX2_readAttribute_2 : decode cX2_readAttribute 2 = .ok (.iload_n 1, 1) := by decide +kernel
theorem dX2_readAttribute_3 : decode cX2_readAttribute 3 = .ok (.iconst 4, 1) := by decide +kernel
theorem dX2_readAttribute_4 : decode cX2_readAttribute 4 = .ok (.if_icmp .ge 24, 3) := by decide +kernel
theorem dX2_readAttribute_7 : decode cX2_readAttribute 7 = .ok (.aload_n 0, 1) := by decide +kernel
theorem dX2_readAttribute_8 : decode cX2_readAttribute 8 = .ok (.ldc 103, 2) := by decide +kernel
theorem dX2_readAttribute_10 : decode cX2_readAttribute 10 = .ok (.iload_n 1, 1) := by decide +kernel
theorem dX2_readAttribute_11 : decode cX2_readAttribute 11 = .ok (.invokevirtual 105, 3) := by decide +kernel
theorem dX2_readAttribute_14 : decode cX2_readAttribute 14 = .ok (.invokevirtual 111, 3) := by decide +kernel
theorem dX2_readAttribute_17 : decode cX2_readAttribute 17 = .ok (.ifCond .eq 5, 3) := by decide +kernel
theorem dX2_readAttribute_20 : decode cX2_readAttribute 20 = .ok (.iload_n 1, 1) := by decide +kernel
theorem dX2_readAttribute_21 : decode cX2_readAttribute 21 = .ok (.ireturn, 1) := by decide +kernel
theorem dX2_readAttribute_22 : decode cX2_readAttribute 22 = .ok (.iinc 1 1, 3) := by decide +kernel
theorem dX2_readAttribute_25 : decode cX2_readAttribute 25 = .ok (.goto (-23), 3) := by decide +kernel
theorem dX2_readAttribute_28 : decode cX2_readAttribute 28 = .ok (.bipush (-4), 2) := by decide +kernel
theorem dX2_readAttribute_30 : decode cX2_readAttribute 30 = .ok (.ireturn, 1) := by decide +kernel
theorem dX2_readValues_0 : decode cX2_readValues 0 = .ok (.iconst 0, 1) := by decide +kernel
theorem dX2_readValues_1 : decode cX2_readValues 1 = .ok (.istore_n 2, 1) := by decide +kernel
theorem dX2_readValues_2 : decode cX2_readValues 2 = .ok (.iconst 0, 1) := by decide +kernel
theorem dX2_readValues_3 : decode cX2_readValues 3 = .ok (.istore_n 3, 1) := by decide +kernel
theorem dX2_readValues_4 : decode cX2_readValues 4 = .ok (.iload_n 3, 1) := by decide +kernel
theorem dX2_readValues_5 : decode cX2_readValues 5 = .ok (.iload_n 1, 1) := by decide +kernel
theorem dX2_readValues_6 : decode cX2_readValues 6 = .ok (.if_icmp .ge 73, 3) := by decide +kernel
theorem dX2_readValues_9 : decode cX2_readValues 9 = .ok (.aload_n 0, 1) := by decide +kernel
theorem dX2_readValues_10 : decode cX2_readValues 10 = .ok (.getfield 32, 3) := by decide +kernel
theorem dX2_readValues_13 : decode cX2_readValues 13 = .ok (.aload_n 0, 1) := by decide +kernel
theorem dX2_readValues_14 : decode cX2_readValues 14 = .ok (.getfield 28, 3) := by decide +kernel
theorem dX2_readValues_17 : decode cX2_readValues 17 = .ok (.if_icmp .ge 62, 3) := by decide +kernel
theorem dX2_readValues_20 : decode cX2_readValues 20 = .ok (.aload_n 0, 1) := by decide +kernel
theorem dX2_readValues_21 : decode cX2_readValues 21 = .ok (.getfield 9, 3) := by decide +kernel
theorem dX2_readValues_24 : decode cX2_readValues 24 = .ok (.aload_n 0, 1) := by decide +kernel
theorem dX2_readValues_25 : decode cX2_readValues 25 = .ok (.getfield 32, 3) := by decide +kernel
theorem dX2_readValues_28 : decode cX2_readValues 28 = .ok (.caload, 1) := by decide +kernel
theorem dX2_readValues_29 : decode cX2_readValues 29 = .ok (.bipush 48, 2) := by decide +kernel
theorem dX2_readValues_31 : decode cX2_readValues 31 = .ok (.isub, 1) := by decide +kernel
theorem dX2_readValues_32 : decode cX2_readValues 32 = .ok (.istore 4, 2) := by decide +kernel
theorem dX2_readValues_34 : decode cX2_readValues 34 = .ok (.iload 4, 2) := by decide +kernel
theorem dX2_readValues_36 : decode cX2_readValues 36 = .ok (.ifCond .lt 18, 3) := by decide +kernel
theorem dX2_readValues_39 : decode cX2_readValues 39 = .ok (.iload 4, 2) := by decide +kernel
theorem dX2_readValues_41 : decode cX2_readValues 41 = .ok (.iload_n 1, 1) := by decide +kernel
theorem dX2_readValues_42 : decode cX2_readValues 42 = .ok (.if_icmp .ge 12, 3) := by decide +kernel
theorem dX2_readValues_45 : decode cX2_readValues 45 = .ok (.iload_n 2, 1) := by decide +kernel
theorem dX2_readValues_46 : decode cX2_readValues 46 = .ok (.iload 4, 2) := by decide +kernel
theorem dX2_readValues_48 : decode cX2_readValues 48 = .ok (.ishr, 1) := by decide +kernel
theorem dX2_readValues_49 : decode cX2_readValues 49 = .ok (.iconst 1, 1) := by decide +kernel
theorem dX2_readValues_50 : decode cX2_readValues 50 = .ok (.iand, 1) := by decide +kernel
theorem dX2_readValues_51 : decode cX2_readValues 51 = .ok (.ifCond .eq 5, 3) := by decide +kernel
theorem dX2_readValues_54 : decode cX2_readValues 54 = .ok (.iload_n 2, 1) := by decide +kernel
theorem dX2_readValues_55 : decode cX2_readValues 55 = .ok (.ireturn, 1) := by decide +kernel
theorem dX2_readValues_56 : decode cX2_readValues 56 = .ok (.iload_n 2, 1) := by decide +kernel
theorem dX2_readValues_57 : decode cX2_readValues 57 = .ok (.iconst 1, 1) := by decide +kernel
theorem dX2_readValues_58 : decode cX2_readValues 58 = .ok (.iload 4, 2) := by decide +kernel
theorem dX2_readValues_60 : decode cX2_readValues 60 = .ok (.ishl, 1) := by decide +kernel
theorem dX2_readValues_61 : decode cX2_readValues 61 = .ok (.ior, 1) := by decide +kernel
theorem dX2_readValues_62 : decode cX2_readValues 62 = .ok (.istore_n 2, 1) := by decide +kernel
theorem dX2_readValues_63 : decode cX2_readValues 63 = .ok (.aload_n 0, 1) := by decide +kernel
theorem dX2_readValues_64 : decode cX2_readValues 64 = .ok (.dup, 1) := by decide +kernel
theorem dX2_readValues_65 : decode cX2_readValues 65 = .ok (.getfield 32, 3) := by decide +kernel
theorem dX2_readValues_68 : decode cX2_readValues 68 = .ok (.iconst 1, 1) := by decide +kernel
theorem dX2_readValues_69 : decode cX2_readValues 69 = .ok (.iadd, 1) := by decide +kernel
theorem dX2_readValues_70 : decode cX2_readValues 70 = .ok (.putfield 32, 3) := by decide +kernel
theorem dX2_readValues_73 : decode cX2_readValues 73 = .ok (.iinc 3 1, 3) := by decide +kernel
theorem dX2_readValues_76 : decode cX2_readValues 76 = .ok (.goto (-72), 3) := by decide +kernel
theorem dX2_readValues_79 : decode cX2_readValues 79 = .ok (.iload_n 2, 1) := by decide +kernel
theorem dX2_readValues_80 : decode cX2_readValues 80 = .ok (.ireturn, 1) := by decide +kernel
theorem dX2_acceptCharacter_0 : decode cX2_acceptCharacter 0 = .ok (.aload_n 0, 1) := by decide +kernel
theorem dX2_acceptCharacter_1 : decode cX2_acceptCharacter 1 = .ok (.getfield 32, 3) := by decide +kernel
theorem dX2_acceptCharacter_4 : decode cX2_acceptCharacter 4 = .ok (.aload_n 0, 1) := by decide +kernel
theorem dX2_acceptCharacter_5 : decode cX2_acceptCharacter 5 = .ok (.getfield 28, 3) := by decide +kernel
theorem dX2_acceptCharacter_8 : decode cX2_acceptCharacter 8 = .ok (.if_icmp .ge 16, 3) := by decide +kernel
theorem dX2_acceptCharacter_11 : decode cX2_acceptCharacter 11 = .ok (.aload_n 0, 1) := by decide +kernel
theorem dX2_acceptCharacter_12 : decode cX2_acceptCharacter 12 = .ok (.getfield 9, 3) := by decide +kernel
theorem dX2_acceptCharacter_15 : decode cX2_acceptCharacter 15 = .ok (.aload_n 0, 1) := by decide +kernel
theorem dX2_acceptCharacter_16 : decode cX2_acceptCharacter 16 = .ok (.getfield 32, 3) := by decide +kernel
theorem dX2_acceptCharacter_19 : decode cX2_acceptCharacter 19 = .ok (.caload, 1) := by decide +kernel
theorem dX2_acceptCharacter_20 : decode cX2_acceptCharacter 20 = .ok (.iload_n 1, 1) := by decide +kernel
theorem dX2_acceptCharacter_21 : decode cX2_acceptCharacter 21 = .ok (.if_icmp .eq 5, 3) := by decide +kernel
theorem dX2_acceptCharacter_24 : decode cX2_acceptCharacter 24 = .ok (.iconst 0, 1) := by decide +kernel
theorem dX2_acceptCharacter_25 : decode cX2_acceptCharacter 25 = .ok (.ireturn, 1) := by decide +kernel
theorem dX2_acceptCharacter_26 : decode cX2_acceptCharacter 26 = .ok (.aload_n 0, 1) := by decide +kernel
theorem dX2_acceptCharacter_27 : decode cX2_acceptCharacter 27 = .ok (.dup, 1) := by decide +kernel
theorem dX2_acceptCharacter_28 : decode cX2_acceptCharacter 28 = .ok (.getfield 32, 3) := by decide +kernel
theorem dX2_acceptCharacter_31 : decode cX2_acceptCharacter 31 = .ok (.iconst 1, 1) := by decide +kernel
theorem dX2_acceptCharacter_32 : decode cX2_acceptCharacter 32 = .ok (.iadd, 1) := by decide +kernel
theorem dX2_acceptCharacter_33 : decode cX2_acceptCharacter 33 = .ok (.putfield 32, 3) := by decide +kernel
theorem dX2_acceptCharacter_36 : decode cX2_acceptCharacter 36 = .ok (.iconst 1, 1) := by decide +kernel
theorem dX2_acceptCharacter_37 : decode cX2_acceptCharacter 37 = .ok (.ireturn, 1) := by decide +kernel
theorem dX2_accept_0 : decode cX2_accept 0 = .ok (.aload_n 1, 1) := by decide +kernel
theorem dX2_accept_1 : decode cX2_accept 1 = .ok (.invokevirtual 115, 3) := by decide +kernel
theorem dX2_accept_4 : decode cX2_accept 4 = .ok (.aload_n 0, 1) := by decide +kernel
theorem dX2_accept_5 : decode cX2_accept 5 = .ok (.getfield 28, 3) := by decide +kernel
theorem dX2_accept_8 : decode cX2_accept 8 = .ok (.aload_n 0, 1) := by decide +kernel
theorem dX2_accept_9 : decode cX2_accept 9 = .ok (.getfield 32, 3) := by decide +kernel
theorem dX2_accept_12 : decode cX2_accept 12 = .ok (.isub, 1) := by decide +kernel
theorem dX2_accept_13 : decode cX2_accept 13 = .ok (.if_icmp .le 5, 3) := by decide +kernel
theorem dX2_accept_16 : decode cX2_accept 16 = .ok (.iconst 0, 1) := by decide +kernel
theorem dX2_accept_17 : decode cX2_accept 17 = .ok (.ireturn, 1) := by decide +kernel
theorem dX2_accept_18 : decode cX2_accept 18 = .ok (.iconst 0, 1) := by decide +kernel
theorem dX2_accept_19 : decode cX2_accept 19 = .ok (.istore_n 2, 1) := by decide +kernel
theorem dX2_accept_20 : decode cX2_accept 20 = .ok (.iload_n 2, 1) := by decide +kernel
theorem dX2_accept_21 : decode cX2_accept 21 = .ok (.aload_n 1, 1) := by decide +kernel
theorem dX2_accept_22 : decode cX2_accept 22 = .ok (.invokevirtual 115, 3) := by decide +kernel
theorem dX2_accept_25 : decode cX2_accept 25 = .ok (.if_icmp .ge 30, 3) := by decide +kernel
theorem dX2_accept_28 : decode cX2_accept 28 = .ok (.aload_n 0, 1) := by decide +kernel
theorem dX2_accept_29 : decode cX2_accept 29 = .ok (.getfield 9, 3) := by decide +kernel
theorem dX2_accept_32 : decode cX2_accept 32 = .ok (.aload_n 0, 1) := by decide +kernel
theorem dX2_accept_33 : decode cX2_accept 33 = .ok (.getfield 32, 3) := by decide +kernel
theorem dX2_accept_36 : decode cX2_accept 36 = .ok (.iload_n 2, 1) := by decide +kernel
theorem dX2_accept_37 : decode cX2_accept 37 = .ok (.iadd, 1) := by decide +kernel
theorem dX2_accept_38 : decode cX2_accept 38 = .ok (.caload, 1) := by decide +kernel
theorem dX2_accept_39 : decode cX2_accept 39 = .ok (.aload_n 1, 1) := by decide +kernel
theorem dX2_accept_40 : decode cX2_accept 40 = .ok (.iload_n 2, 1) := by decide +kernel
theorem dX2_accept_41 : decode cX2_accept 41 = .ok (.invokevirtual 105, 3) := by decide +kernel
theorem dX2_accept_44 : decode cX2_accept 44 = .ok (.if_icmp .eq 5, 3) := by decide +kernel
theorem dX2_accept_47 : decode cX2_accept 47 = .ok (.iconst 0, 1) := by decide +kernel
theorem dX2_accept_48 : decode cX2_accept 48 = .ok (.ireturn, 1) := by decide +kernel
theorem dX2_accept_49 : decode cX2_accept 49 = .ok (.iinc 2 1, 3) := by decide +kernel
theorem dX2_accept_52 : decode cX2_accept 52 = .ok (.goto (-32), 3) := by decide +kernel
theorem dX2_accept_55 : decode cX2_accept 55 = .ok (.aload_n 0, 1) := by decide +kernel
theorem dX2_accept_56 : decode cX2_accept 56 = .ok (.dup, 1) := by decide +kernel
theorem dX2_accept_57 : decode cX2_accept 57 = .ok (.getfield 32, 3) := by decide +kernel
theorem dX2_accept_60 : decode cX2_accept 60 = .ok (.aload_n 1, 1) := by decide +kernel
theorem dX2_accept_61 : decode cX2_accept 61 = .ok (.invokevirtual 115, 3) := by decide +kernel
theorem dX2_accept_64 : decode cX2_accept 64 = .ok (.iadd, 1) := by decide +kernel
theorem dX2_accept_65 : decode cX2_accept 65 = .ok (.putfield 32, 3) := by decide +kernel
theorem dX2_accept_68 : decode cX2_accept 68 = .ok (.iconst 1, 1) := by decide +kernel
theorem dX2_accept_69 : decode cX2_accept 69 = .ok (.ireturn, 1) := by decide +kernel
theorem dX3_init_0 : decode cX3_init 0 = .ok (.aload_n 0, 1) := by decide +kernel
theorem dX3_init_1 : decode cX3_init 1 = .ok (.invokespecial 3, 3) := by decide +kernel
theorem dX3_init_4 : decode cX3_init 4 = .ok (.aload_n 0, 1) := by decide +kernel
theorem dX3_init_5 : decode cX3_init 5 = .ok (.sipush 256, 3) := by decide +kernel
theorem dX3_init_8 : decode cX3_init 8 = .ok (.newarray .int, 2) := by decide +kernel
theorem dX3_init_10 : decode cX3_init 10 = .ok (.putfield 9, 3) := by decide +kernel
theorem dX3_init_13 : decode cX3_init 13 = .ok (.aload_n 0, 1) := by decide +kernel
theorem dX3_init_14 : decode cX3_init 14 = .ok (.sipush 256, 3) := by decide +kernel
theorem dX3_init_17 : decode cX3_init 17 = .ok (.newarray .boolean, 2) := by decide +kernel
theorem dX3_init_19 : decode cX3_init 19 = .ok (.putfield 15, 3) := by decide +kernel
theorem dX3_init_22 : decode cX3_init 22 = .ok (.aload_n 0, 1) := by decide +kernel
theorem dX3_init_23 : decode cX3_init 23 = .ok (.iconst 0, 1) := by decide +kernel
theorem dX3_init_24 : decode cX3_init 24 = .ok (.putfield 19, 3) := by decide +kernel
theorem dX3_init_27 : decode cX3_init 27 = .ok (.return_, 1) := by decide +kernel
theorem dX3_empty_0 : decode cX3_empty 0 = .ok (.iconst 0, 1) := by decide +kernel
theorem dX3_empty_1 : decode cX3_empty 1 = .ok (.istore_n 1, 1) := by decide +kernel
theorem dX3_empty_2 : decode cX3_empty 2 = .ok (.iload_n 1, 1) := by decide +kernel
theorem dX3_empty_3 : decode cX3_empty 3 = .ok (.sipush 256, 3) := by decide +kernel
theorem dX3_empty_6 : decode cX3_empty 6 = .ok (.if_icmp .ge 16, 3) := by decide +kernel
theorem dX3_empty_9 : decode cX3_empty 9 = .ok (.aload_n 0, 1) := by decide +kernel
theorem dX3_empty_10 : decode cX3_empty 10 = .ok (.getfield 15, 3) := by decide +kernel
theorem dX3_empty_13 : decode cX3_empty 13 = .ok (.iload_n 1, 1) := by decide +kernel
theorem dX3_empty_14 : decode cX3_empty 14 = .ok (.iconst 0, 1) := by decide +kernel
theorem dX3_empty_15 : decode cX3_empty 15 = .ok (.bastore, 1) := by decide +kernel
theorem dX3_empty_16 : decode cX3_empty 16 = .ok (.iinc 1 1, 3) := by decide +kernel
theorem dX3_empty_19 : decode cX3_empty 19 = .ok (.goto (-17), 3) := by decide +kernel
theorem dX3_empty_22 : decode cX3_empty 22 = .ok (.aload_n 0, 1) := by decide +kernel
theorem dX3_empty_23 : decode cX3_empty 23 = .ok (.iconst 0, 1) := by decide +kernel
theorem dX3_empty_24 : decode cX3_empty 24 = .ok (.putfield 19, 3) := by decide +kernel
theorem dX3_empty_27 : decode cX3_empty 27 = .ok (.return_, 1) := by decide +kernel
theorem dX3_add_0 : decode cX3_add 0 = .ok (.iload_n 1, 1) := by decide +kernel
theorem dX3_add_1 : decode cX3_add 1 = .ok (.ifCond .lt 29, 3) := by decide +kernel
theorem dX3_add_4 : decode cX3_add 4 = .ok (.iload_n 1, 1) := by decide +kernel
theorem dX3_add_5 : decode cX3_add 5 = .ok (.sipush 256, 3) := by decide +kernel
theorem dX3_add_8 : decode cX3_add 8 = .ok (.if_icmp .ge 22, 3) := by decide +kernel
theorem dX3_add_11 : decode cX3_add 11 = .ok (.aload_n 0, 1) := by decide +kernel
theorem dX3_add_12 : decode cX3_add 12 = .ok (.getfield 15, 3) := by decide +kernel
theorem dX3_add_15 : decode cX3_add 15 = .ok (.iload_n 1, 1) := by decide +kernel
theorem dX3_add_16 : decode cX3_add 16 = .ok (.baload, 1) := by decide +kernel
theorem dX3_add_17 : decode cX3_add 17 = .ok (.ifCond .ne 13, 3) := by decide +kernel
theorem dX3_add_20 : decode cX3_add 20 = .ok (.aload_n 0, 1) := by decide +kernel
theorem dX3_add_21 : decode cX3_add 21 = .ok (.getfield 19, 3) := by decide +kernel
theorem dX3_add_24 : decode cX3_add 24 = .ok (.sipush 256, 3) := by decide +kernel
theorem dX3_add_27 : decode cX3_add 27 = .ok (.if_icmp .lt 4, 3) := by decide +kernel
theorem dX3_add_30 : decode cX3_add 30 = .ok (.return_, 1) := by decide +kernel
theorem dX3_add_31 : decode cX3_add 31 = .ok (.aload_n 0, 1) := by decide +kernel
theorem dX3_add_32 : decode cX3_add 32 = .ok (.getfield 15, 3) := by decide +kernel
theorem dX3_add_35 : decode cX3_add 35 = .ok (.iload_n 1, 1) := by decide +kernel
theorem dX3_add_36 : decode cX3_add 36 = .ok (.iconst 1, 1) := by decide +kernel
theorem dX3_add_37 : decode cX3_add 37 = .ok (.bastore, 1) := by decide +kernel
theorem dX3_add_38 : decode cX3_add 38 = .ok (.aload_n 0, 1) := by decide +kernel
theorem dX3_add_39 : decode cX3_add 39 = .ok (.getfield 9, 3) := by decide +kernel
theorem dX3_add_42 : decode cX3_add 42 = .ok (.aload_n 0, 1) := by decide +kernel
theorem dX3_add_43 : decode cX3_add 43 = .ok (.getfield 19, 3) := by decide +kernel
theorem dX3_add_46 : decode cX3_add 46 = .ok (.iload_n 1, 1) := by decide +kernel
theorem dX3_add_47 : decode cX3_add 47 = .ok (.iastore, 1) := by decide +kernel
theorem dX3_add_48 : decode cX3_add 48 = .ok (.aload_n 0, 1) := by decide +kernel
theorem dX3_add_49 : decode cX3_add 49 = .ok (.dup, 1) := by decide +kernel
theorem dX3_add_50 : decode cX3_add 50 = .ok (.getfield 19, 3) := by decide +kernel
theorem dX3_add_53 : decode cX3_add 53 = .ok (.iconst 1, 1) := by decide +kernel
theorem dX3_add_54 : decode cX3_add 54 = .ok (.iadd, 1) := by decide +kernel
theorem dX3_add_55 : decode cX3_add 55 = .ok (.putfield 19, 3) := by decide +kernel
theorem dX3_add_58 : decode cX3_add 58 = .ok (.return_, 1) := by decide +kernel
theorem dX3_anyGranted_0 : decode cX3_anyGranted 0 = .ok (.iconst 0, 1) := by decide +kernel
theorem dX3_anyGranted_1 : decode cX3_anyGranted 1 = .ok (.istore_n 3, 1) := by decide +kernel
theorem dX3_anyGranted_2 : decode cX3_anyGranted 2 = .ok (.iload_n 3, 1) := by decide +kernel
theorem dX3_anyGranted_3 : decode cX3_anyGranted 3 = .ok (.aload_n 0, 1) := by decide +kernel
theorem dX3_anyGranted_4 : decode cX3_anyGranted 4 = .ok (.getfield 19, 3) := by decide +kernel
theorem dX3_anyGranted_7 : decode cX3_anyGranted 7 = .ok (.if_icmp .ge 26, 3) := by decide +kernel
theorem dX3_anyGranted_10 : decode cX3_anyGranted 10 = .ok (.aload_n 1, 1) := by decide +kernel
theorem dX3_anyGranted_11 : decode cX3_anyGranted 11 = .ok (.aload_n 0, 1) := by decide +kernel
theorem dX3_anyGranted_12 : decode cX3_anyGranted 12 = .ok (.getfield 9, 3) := by decide +kernel
theorem dX3_anyGranted_15 : decode cX3_anyGranted 15 = .ok (.iload_n 3, 1) := by decide +kernel
theorem dX3_anyGranted_16 : decode cX3_anyGranted 16 = .ok (.iaload, 1) := by decide +kernel
theorem dX3_anyGranted_17 : decode cX3_anyGranted 17 = .ok (.iload_n 2, 1) := by decide +kernel
theorem dX3_anyGranted_18 : decode cX3_anyGranted 18 = .ok (.iand, 1) := by decide +kernel
theorem dX3_anyGranted_19 : decode cX3_anyGranted 19 = .ok (.invokevirtual 23, 3) := by decide +kernel
theorem dX3_anyGranted_22 : decode cX3_anyGranted 22 = .ok (.ifCond .ne 5, 3) := by decide +kernel
theorem dX3_anyGranted_25 : decode cX3_anyGranted 25 = .ok (.iconst 1, 1) := by decide +kernel
theorem dX3_anyGranted_26 : decode cX3_anyGranted 26 = .ok (.ireturn, 1) := by decide +kernel
theorem dX3_anyGranted_27 : decode cX3_anyGranted 27 = .ok (.iinc 3 1, 3) := by decide +kernel
theorem dX3_anyGranted_30 : decode cX3_anyGranted 30 = .ok (.goto (-28), 3) := by decide +kernel
theorem dX3_anyGranted_33 : decode cX3_anyGranted 33 = .ok (.iconst 0, 1) := by decide +kernel
theorem dX3_anyGranted_34 : decode cX3_anyGranted 34 = .ok (.ireturn, 1) := by decide +kernel
theorem dX3_sameDecisions_0 : decode cX3_sameDecisions 0 = .ok (.iconst 0, 1) := by decide +kernel
theorem dX3_sameDecisions_1 : decode cX3_sameDecisions 1 = .ok (.istore 4, 2) := by decide +kernel
theorem dX3_sameDecisions_3 : decode cX3_sameDecisions 3 = .ok (.iload 4, 2) := by decide +kernel
theorem dX3_sameDecisions_5 : decode cX3_sameDecisions 5 = .ok (.aload_n 0, 1) := by decide +kernel
theorem dX3_sameDecisions_6 : decode cX3_sameDecisions 6 = .ok (.getfield 19, 3) := by decide +kernel
theorem dX3_sameDecisions_9 : decode cX3_sameDecisions 9 = .ok (.if_icmp .ge 40, 3) := by decide +kernel
theorem dX3_sameDecisions_12 : decode cX3_sameDecisions 12 = .ok (.aload_n 1, 1) := by decide +kernel
theorem dX3_sameDecisions_13 : decode cX3_sameDecisions 13 = .ok (.aload_n 0, 1) := by decide +kernel
theorem dX3_sameDecisions_14 : decode cX3_sameDecisions 14 = .ok (.getfield 9, 3) := by decide +kernel
theorem dX3_sameDecisions_17 : decode cX3_sameDecisions 17 = .ok (.iload 4, 2) := by decide +kernel
theorem dX3_sameDecisions_19 : decode cX3_sameDecisions 19 = .ok (.iaload, 1) := by decide +kernel
theorem dX3_sameDecisions_20 : decode cX3_sameDecisions 20 = .ok (.iload_n 2, 1) := by decide +kernel
theorem dX3_sameDecisions_21 : decode cX3_sameDecisions 21 = .ok (.iand, 1) := by decide +kernel
theorem dX3_sameDecisions_22 : decode cX3_sameDecisions 22 = .ok (.invokevirtual 23, 3) := by decide +kernel
theorem dX3_sameDecisions_25 : decode cX3_sameDecisions 25 = .ok (.aload_n 1, 1) := by decide +kernel
theorem dX3_sameDecisions_26 : decode cX3_sameDecisions 26 = .ok (.aload_n 0, 1) := by decide +kernel
theorem dX3_sameDecisions_27 : decode cX3_sameDecisions 27 = .ok (.getfield 9, 3) := by decide +kernel
theorem dX3_sameDecisions_30 : decode cX3_sameDecisions 30 = .ok (.iload 4, 2) := by decide +kernel
theorem dX3_sameDecisions_32 : decode cX3_sameDecisions 32 = .ok (.iaload, 1) := by decide +kernel
theorem dX3_sameDecisions_33 : decode cX3_sameDecisions 33 = .ok (.iload_n 3, 1) := by decide +kernel
theorem dX3_sameDecisions_34 : decode cX3_sameDecisions 34 = .ok (.iand, 1) := by decide +kernel
theorem dX3_sameDecisions_35 : decode cX3_sameDecisions 35 = .ok (.invokevirtual 23, 3) := by decide +kernel
theorem dX3_sameDecisions_38 : decode cX3_sameDecisions 38 = .ok (.if_icmp .eq 5, 3) := by decide +kernel
theorem dX3_sameDecisions_41 : decode cX3_sameDecisions 41 = .ok (.iconst 0, 1) := by decide +kernel
theorem dX3_sameDecisions_42 : decode cX3_sameDecisions 42 = .ok (.ireturn, 1) := by decide +kernel
theorem dX3_sameDecisions_43 : decode cX3_sameDecisions 43 = .ok (.iinc 4 1, 3) := by decide +kernel
theorem dX3_sameDecisions_46 : decode cX3_sameDecisions 46 = .ok (.goto (-43), 3) := by decide +kernel
theorem dX3_sameDecisions_49 : decode cX3_sameDecisions 49 = .ok (.iconst 1, 1) := by decide +kernel
theorem dX3_sameDecisions_50 : decode cX3_sameDecisions 50 = .ok (.ireturn, 1) := by decide +kernel
theorem dX4_init_0 : decode cX4_init 0 = .ok (.aload_n 0, 1) := by decide +kernel
theorem dX4_init_1 : decode cX4_init 1 = .ok (.invokespecial 1, 3) := by decide +kernel
theorem dX4_init_4 : decode cX4_init 4 = .ok (.aload_n 0, 1) := by decide +kernel
theorem dX4_init_5 : decode cX4_init 5 = .ok (.new 7, 3) := by decide +kernel
theorem dX4_init_8 : decode cX4_init 8 = .ok (.dup, 1) := by decide +kernel
theorem dX4_init_9 : decode cX4_init 9 = .ok (.invokespecial 9, 3) := by decide +kernel
theorem dX4_init_12 : decode cX4_init 12 = .ok (.putfield 10, 3) := by decide +kernel
theorem dX4_init_15 : decode cX4_init 15 = .ok (.aload_n 0, 1) := by decide +kernel
theorem dX4_init_16 : decode cX4_init 16 = .ok (.new 7, 3) := by decide +kernel
theorem dX4_init_19 : decode cX4_init 19 = .ok (.dup, 1) := by decide +kernel
theorem dX4_init_20 : decode cX4_init 20 = .ok (.invokespecial 9, 3) := by decide +kernel
theorem dX4_init_23 : decode cX4_init 23 = .ok (.putfield 16, 3) := by decide +kernel
theorem dX4_init_26 : decode cX4_init 26 = .ok (.aload_n 0, 1) := by decide +kernel
theorem dX4_init_27 : decode cX4_init 27 = .ok (.new 19, 3) := by decide +kernel
theorem dX4_init_30 : decode cX4_init 30 = .ok (.dup, 1) := by decide +kernel
theorem dX4_init_31 : decode cX4_init 31 = .ok (.invokespecial 21, 3) := by decide +kernel
theorem dX4_init_34 : decode cX4_init 34 = .ok (.putfield 22, 3) := by decide +kernel
theorem dX4_init_37 : decode cX4_init 37 = .ok (.aload_n 0, 1) := by decide +kernel
theorem dX4_init_38 : decode cX4_init 38 = .ok (.new 26, 3) := by decide +kernel
theorem dX4_init_41 : decode cX4_init 41 = .ok (.dup, 1) := by decide +kernel
theorem dX4_init_42 : decode cX4_init 42 = .ok (.invokespecial 28, 3) := by decide +kernel
theorem dX4_init_45 : decode cX4_init 45 = .ok (.putfield 29, 3) := by decide +kernel
theorem dX4_init_48 : decode cX4_init 48 = .ok (.aload_n 0, 1) := by decide +kernel
theorem dX4_init_49 : decode cX4_init 49 = .ok (.new 33, 3) := by decide +kernel
theorem dX4_init_52 : decode cX4_init 52 = .ok (.dup, 1) := by decide +kernel
theorem dX4_init_53 : decode cX4_init 53 = .ok (.invokespecial 35, 3) := by decide +kernel
theorem dX4_init_56 : decode cX4_init 56 = .ok (.putfield 36, 3) := by decide +kernel
theorem dX4_init_59 : decode cX4_init 59 = .ok (.iconst 0, 1) := by decide +kernel
theorem dX4_init_60 : decode cX4_init 60 = .ok (.istore_n 1, 1) := by decide +kernel
theorem dX4_init_61 : decode cX4_init 61 = .ok (.iload_n 1, 1) := by decide +kernel
theorem dX4_init_62 : decode cX4_init 62 = .ok (.ldc 40, 2) := by decide +kernel
theorem dX4_init_64 : decode cX4_init 64 = .ok (.invokevirtual 42, 3) := by decide +kernel
theorem dX4_init_67 : decode cX4_init 67 = .ok (.if_icmp .ge 23, 3) := by decide +kernel
theorem dX4_init_70 : decode cX4_init 70 = .ok (.aload_n 0, 1) := by decide +kernel
theorem dX4_init_71 : decode cX4_init 71 = .ok (.getfield 22, 3) := by decide +kernel
theorem dX4_init_74 : decode cX4_init 74 = .ok (.ldc 40, 2) := by decide +kernel
theorem dX4_init_76 : decode cX4_init 76 = .ok (.iload_n 1, 1) := by decide +kernel
theorem dX4_init_77 : decode cX4_init 77 = .ok (.invokevirtual 48, 3) := by decide +kernel
theorem dX4_init_80 : decode cX4_init 80 = .ok (.invokevirtual 52, 3) := by decide +kernel
theorem dX4_init_83 : decode cX4_init 83 = .ok (.pop, 1) := by decide +kernel
theorem dX4_init_84 : decode cX4_init 84 = .ok (.iinc 1 1, 3) := by decide +kernel
theorem dX4_init_87 : decode cX4_init 87 = .ok (.goto (-26), 3) := by decide +kernel
theorem dX4_init_90 : decode cX4_init 90 = .ok (.aload_n 0, 1) := by decide +kernel
theorem dX4_init_91 : decode cX4_init 91 = .ok (.getfield 22, 3) := by decide +kernel
theorem dX4_init_94 : decode cX4_init 94 = .ok (.invokevirtual 56, 3) := by decide +kernel
theorem dX4_init_97 : decode cX4_init 97 = .ok (.bipush (-4), 2) := by decide +kernel
theorem dX4_init_99 : decode cX4_init 99 = .ok (.if_icmp .ne 7, 3) := by decide +kernel
theorem dX4_init_102 : decode cX4_init 102 = .ok (.aload_n 0, 1) := by decide +kernel
theorem dX4_init_103 : decode cX4_init 103 = .ok (.invokevirtual 59, 3) := by decide +kernel
theorem dX4_init_106 : decode cX4_init 106 = .ok (.aload_n 0, 1) := by decide +kernel
theorem dX4_init_107 : decode cX4_init 107 = .ok (.getfield 22, 3) := by decide +kernel
theorem dX4_init_110 : decode cX4_init 110 = .ok (.invokevirtual 62, 3) := by decide +kernel
theorem dX4_init_113 : decode cX4_init 113 = .ok (.return_, 1) := by decide +kernel
theorem dX4_append_0 : decode cX4_append 0 = .ok (.iload_n 1, 1) := by decide +kernel
theorem dX4_append_1 : decode cX4_append 1 = .ok (.bipush 32, 2) := by decide +kernel
theorem dX4_append_3 : decode cX4_append 3 = .ok (.if_icmp .lt 9, 3) := by decide +kernel
theorem dX4_append_6 : decode cX4_append 6 = .ok (.iload_n 1, 1) := by decide +kernel
theorem dX4_append_7 : decode cX4_append 7 = .ok (.bipush 126, 2) := by decide +kernel
theorem dX4_append_9 : decode cX4_append 9 = .ok (.if_icmp .le 5, 3) := by decide +kernel
theorem dX4_append_12 : decode cX4_append 12 = .ok (.iconst (-1), 1) := by decide +kernel
theorem dX4_append_13 : decode cX4_append 13 = .ok (.ireturn, 1) := by decide +kernel
theorem dX4_append_14 : decode cX4_append 14 = .ok (.aload_n 0, 1) := by decide +kernel
theorem dX4_append_15 : decode cX4_append 15 = .ok (.getfield 22, 3) := by decide +kernel
theorem dX4_append_18 : decode cX4_append 18 = .ok (.iload_n 1, 1) := by decide +kernel
theorem dX4_append_19 : decode cX4_append 19 = .ok (.i2c, 1) := by decide +kernel
theorem dX4_append_20 : decode cX4_append 20 = .ok (.invokevirtual 52, 3) := by decide +kernel
theorem dX4_append_23 : decode cX4_append 23 = .ok (.ifCond .eq 13, 3) := by decide +kernel
theorem dX4_append_26 : decode cX4_append 26 = .ok (.aload_n 0, 1) := by decide +kernel
theorem dX4_append_27 : decode cX4_append 27 = .ok (.getfield 22, 3) := by decide +kernel
theorem dX4_append_30 : decode cX4_append 30 = .ok (.invokevirtual 65, 3) := by decide +kernel
theorem dX4_append_33 : decode cX4_append 33 = .ok (.goto 5, 3) := by decide +kernel
theorem dX4_append_36 : decode cX4_append 36 = .ok (.bipush (-2), 2) := by decide +kernel
theorem dX4_append_38 : decode cX4_append 38 = .ok (.ireturn, 1) := by decide +kernel
theorem dX4_clearText_0 : decode cX4_clearText 0 = .ok (.aload_n 0, 1) := by decide +kernel
theorem dX4_clearText_1 : decode cX4_clearText 1 = .ok (.getfield 22, 3) := by decide +kernel
theorem dX4_clearText_4 : decode cX4_clearText 4 = .ok (.invokevirtual 65, 3) := by decide +kernel
theorem dX4_clearText_7 : decode cX4_clearText 7 = .ok (.istore_n 1, 1) := by decide +kernel
theorem dX4_clearText_8 : decode cX4_clearText 8 = .ok (.aload_n 0, 1) := by decide +kernel
theorem dX4_clearText_9 : decode cX4_clearText 9 = .ok (.getfield 22, 3) := by decide +kernel
theorem dX4_clearText_12 : decode cX4_clearText 12 = .ok (.invokevirtual 62, 3) := by decide +kernel
theorem dX4_clearText_15 : decode cX4_clearText 15 = .ok (.iload_n 1, 1) := by decide +kernel
theorem dX4_clearText_16 : decode cX4_clearText 16 = .ok (.ireturn, 1) := by decide +kernel
theorem dX4_syntaxError_0 : decode cX4_syntaxError 0 = .ok (.aload_n 0, 1) := by decide +kernel
theorem dX4_syntaxError_1 : decode cX4_syntaxError 1 = .ok (.getfield 22, 3) := by decide +kernel
theorem dX4_syntaxError_4 : decode cX4_syntaxError 4 = .ok (.invokevirtual 56, 3) := by decide +kernel
theorem dX4_syntaxError_7 : decode cX4_syntaxError 7 = .ok (.ireturn, 1) := by decide +kernel
theorem dX4_load_0 : decode cX4_load 0 = .ok (.aload_n 0, 1) := by decide +kernel
theorem dX4_load_1 : decode cX4_load 1 = .ok (.getfield 22, 3) := by decide +kernel
theorem dX4_load_4 : decode cX4_load 4 = .ok (.invokevirtual 56, 3) := by decide +kernel
theorem dX4_load_7 : decode cX4_load 7 = .ok (.bipush (-4), 2) := by decide +kernel
theorem dX4_load_9 : decode cX4_load 9 = .ok (.if_icmp .eq 6, 3) := by decide +kernel
theorem dX4_load_12 : decode cX4_load 12 = .ok (.bipush (-3), 2) := by decide +kernel
theorem dX4_load_14 : decode cX4_load 14 = .ok (.ireturn, 1) := by decide +kernel
theorem dX4_load_15 : decode cX4_load 15 = .ok (.aload_n 0, 1) := by decide +kernel
theorem dX4_load_16 : decode cX4_load 16 = .ok (.invokevirtual 59, 3) := by decide +kernel
theorem dX4_load_19 : decode cX4_load 19 = .ok (.aload_n 0, 1) := by decide +kernel
theorem dX4_load_20 : decode cX4_load 20 = .ok (.getfield 29, 3) := by decide +kernel
theorem dX4_load_23 : decode cX4_load 23 = .ok (.invokevirtual 66, 3) := by decide +kernel
theorem dX4_load_26 : decode cX4_load 26 = .ok (.aload_n 0, 1) := by decide +kernel
theorem dX4_load_27 : decode cX4_load 27 = .ok (.getfield 10, 3) := by decide +kernel
theorem dX4_load_30 : decode cX4_load 30 = .ok (.invokevirtual 69, 3) := by decide +kernel
theorem dX4_load_33 : decode cX4_load 33 = .ok (.aload_n 0, 1) := by decide +kernel
theorem dX4_load_34 : decode cX4_load 34 = .ok (.getfield 16, 3) := by decide +kernel
theorem dX4_load_37 : decode cX4_load 37 = .ok (.invokevirtual 69, 3) := by decide +kernel
theorem dX4_load_40 : decode cX4_load 40 = .ok (.iadd, 1) := by decide +kernel
theorem dX4_load_41 : decode cX4_load 41 = .ok (.ireturn, 1) := by decide +kernel
theorem dX4_takeDrafts_0 : decode cX4_takeDrafts 0 = .ok (.aload_n 0, 1) := by decide +kernel
theorem dX4_takeDrafts_1 : decode cX4_takeDrafts 1 = .ok (.getfield 10, 3) := by decide +kernel
theorem dX4_takeDrafts_4 : decode cX4_takeDrafts 4 = .ok (.aload_n 0, 1) := by decide +kernel
theorem dX4_takeDrafts_5 : decode cX4_takeDrafts 5 = .ok (.getfield 22, 3) := by decide +kernel
theorem dX4_takeDrafts_8 : decode cX4_takeDrafts 8 = .ok (.invokevirtual 72, 3) := by decide +kernel
theorem dX4_takeDrafts_11 : decode cX4_takeDrafts 11 = .ok (.invokevirtual 76, 3) := by decide +kernel
theorem dX4_takeDrafts_14 : decode cX4_takeDrafts 14 = .ok (.aload_n 0, 1) := by decide +kernel
theorem dX4_takeDrafts_15 : decode cX4_takeDrafts 15 = .ok (.getfield 16, 3) := by decide +kernel
theorem dX4_takeDrafts_18 : decode cX4_takeDrafts 18 = .ok (.aload_n 0, 1) := by decide +kernel
theorem dX4_takeDrafts_19 : decode cX4_takeDrafts 19 = .ok (.getfield 22, 3) := by decide +kernel
theorem dX4_takeDrafts_22 : decode cX4_takeDrafts 22 = .ok (.invokevirtual 80, 3) := by decide +kernel
theorem dX4_takeDrafts_25 : decode cX4_takeDrafts 25 = .ok (.invokevirtual 76, 3) := by decide +kernel
theorem dX4_takeDrafts_28 : decode cX4_takeDrafts 28 = .ok (.return_, 1) := by decide +kernel
theorem dX4_addRule_0 : decode cX4_addRule 0 = .ok (.iload_n 1, 1) := by decide +kernel
theorem dX4_addRule_1 : decode cX4_addRule 1 = .ok (.invokestatic 83, 3) := by decide +kernel
theorem dX4_addRule_4 : decode cX4_addRule 4 = .ok (.ifCond .eq 10, 3) := by decide +kernel
theorem dX4_addRule_7 : decode cX4_addRule 7 = .ok (.iload_n 3, 1) := by decide +kernel
theorem dX4_addRule_8 : decode cX4_addRule 8 = .ok (.invokestatic 87, 3) := by decide +kernel
theorem dX4_addRule_11 : decode cX4_addRule 11 = .ok (.ifCond .ne 5, 3) := by decide +kernel
theorem dX4_addRule_14 : decode cX4_addRule 14 = .ok (.iconst (-1), 1) := by decide +kernel
theorem dX4_addRule_15 : decode cX4_addRule 15 = .ok (.ireturn, 1) := by decide +kernel
theorem dX4_addRule_16 : decode cX4_addRule 16 = .ok (.aload_n 0, 1) := by decide +kernel
theorem dX4_addRule_17 : decode cX4_addRule 17 = .ok (.iload_n 1, 1) := by decide +kernel
theorem dX4_addRule_18 : decode cX4_addRule 18 = .ok (.invokevirtual 90, 3) := by decide +kernel
theorem dX4_addRule_21 : decode cX4_addRule 21 = .ok (.astore 4, 2) := by decide +kernel
theorem dX4_addRule_23 : decode cX4_addRule 23 = .ok (.iload_n 2, 1) := by decide +kernel
theorem dX4_addRule_24 : decode cX4_addRule 24 = .ok (.ifCond .lt 12, 3) := by decide +kernel
theorem dX4_addRule_27 : decode cX4_addRule 27 = .ok (.iload_n 2, 1) := by decide +kernel
theorem dX4_addRule_28 : decode cX4_addRule 28 = .ok (.aload 4, 2) := by decide +kernel
theorem dX4_addRule_30 : decode cX4_addRule 30 = .ok (.invokevirtual 69, 3) := by decide +kernel
theorem dX4_addRule_33 : decode cX4_addRule 33 = .ok (.if_icmp .le 5, 3) := by decide +kernel
theorem dX4_addRule_36 : decode cX4_addRule 36 = .ok (.iconst (-1), 1) := by decide +kernel
theorem dX4_addRule_37 : decode cX4_addRule 37 = .ok (.ireturn, 1) := by decide +kernel
theorem dX4_addRule_38 : decode cX4_addRule 38 = .ok (.aload 4, 2) := by decide +kernel
theorem dX4_addRule_40 : decode cX4_addRule 40 = .ok (.invokevirtual 69, 3) := by decide +kernel
theorem dX4_addRule_43 : decode cX4_addRule 43 = .ok (.bipush 8, 2) := by decide +kernel
theorem dX4_addRule_45 : decode cX4_addRule 45 = .ok (.if_icmp .lt 6, 3) := by decide +kernel
theorem dX4_addRule_48 : decode cX4_addRule 48 = .ok (.bipush (-2), 2) := by decide +kernel
theorem dX4_addRule_50 : decode cX4_addRule 50 = .ok (.ireturn, 1) := by decide +kernel
theorem dX4_addRule_51 : decode cX4_addRule 51 = .ok (.aload_n 0, 1) := by decide +kernel
theorem dX4_addRule_52 : decode cX4_addRule 52 = .ok (.getfield 29, 3) := by decide +kernel
theorem dX4_addRule_55 : decode cX4_addRule 55 = .ok (.iload_n 1, 1) := by decide +kernel
theorem dX4_addRule_56 : decode cX4_addRule 56 = .ok (.aload 4, 2) := by decide +kernel
theorem dX4_addRule_58 : decode cX4_addRule 58 = .ok (.invokevirtual 94, 3) := by decide +kernel
theorem dX4_addRule_61 : decode cX4_addRule 61 = .ok (.aload 4, 2) := by decide +kernel
theorem dX4_addRule_63 : decode cX4_addRule 63 = .ok (.iload_n 2, 1) := by decide +kernel
theorem dX4_addRule_64 : decode cX4_addRule 64 = .ok (.iload_n 3, 1) := by decide +kernel
theorem dX4_addRule_65 : decode cX4_addRule 65 = .ok (.invokevirtual 98, 3) := by decide +kernel
theorem dX4_addRule_68 : decode cX4_addRule 68 = .ok (.aload 4, 2) := by decide +kernel
theorem dX4_addRule_70 : decode cX4_addRule 70 = .ok (.invokevirtual 69, 3) := by decide +kernel
theorem dX4_addRule_73 : decode cX4_addRule 73 = .ok (.ireturn, 1) := by decide +kernel
theorem dX4_removeRule_0 : decode cX4_removeRule 0 = .ok (.aload_n 0, 1) := by decide +kernel
theorem dX4_removeRule_1 : decode cX4_removeRule 1 = .ok (.iload_n 1, 1) := by decide +kernel
theorem dX4_removeRule_2 : decode cX4_removeRule 2 = .ok (.iload_n 2, 1) := by decide +kernel
theorem dX4_removeRule_3 : decode cX4_removeRule 3 = .ok (.invokevirtual 102, 3) := by decide +kernel
theorem dX4_removeRule_6 : decode cX4_removeRule 6 = .ok (.ifCond .ne 5, 3) := by decide +kernel
theorem dX4_removeRule_9 : decode cX4_removeRule 9 = .ok (.iconst (-1), 1) := by decide +kernel
theorem dX4_removeRule_10 : decode cX4_removeRule 10 = .ok (.ireturn, 1) := by decide +kernel
theorem dX4_removeRule_11 : decode cX4_removeRule 11 = .ok (.aload_n 0, 1) := by decide +kernel
theorem dX4_removeRule_12 : decode cX4_removeRule 12 = .ok (.iload_n 1, 1) := by decide +kernel
theorem dX4_removeRule_13 : decode cX4_removeRule 13 = .ok (.invokevirtual 90, 3) := by decide +kernel
theorem dX4_removeRule_16 : decode cX4_removeRule 16 = .ok (.astore_n 3, 1) := by decide +kernel
theorem dX4_removeRule_17 : decode cX4_removeRule 17 = .ok (.aload_n 0, 1) := by decide +kernel
theorem dX4_removeRule_18 : decode cX4_removeRule 18 = .ok (.getfield 29, 3) := by decide +kernel
theorem dX4_removeRule_21 : decode cX4_removeRule 21 = .ok (.iload_n 1, 1) := by decide +kernel
theorem dX4_removeRule_22 : decode cX4_removeRule 22 = .ok (.aload_n 3, 1) := by decide +kernel
theorem dX4_removeRule_23 : decode cX4_removeRule 23 = .ok (.invokevirtual 94, 3) := by decide +kernel
theorem dX4_removeRule_26 : decode cX4_removeRule 26 = .ok (.aload_n 3, 1) := by decide +kernel
theorem dX4_removeRule_27 : decode cX4_removeRule 27 = .ok (.iload_n 2, 1) := by decide +kernel
theorem dX4_removeRule_28 : decode cX4_removeRule 28 = .ok (.invokevirtual 106, 3) := by decide +kernel
theorem dX4_removeRule_31 : decode cX4_removeRule 31 = .ok (.aload_n 3, 1) := by decide +kernel
theorem dX4_removeRule_32 : decode cX4_removeRule 32 = .ok (.invokevirtual 69, 3) := by decide +kernel
theorem dX4_removeRule_35 : decode cX4_removeRule 35 = .ok (.ireturn, 1) := by decide +kernel
theorem dX4_moveRule_0 : decode cX4_moveRule 0 = .ok (.aload_n 0, 1) := by decide +kernel
theorem dX4_moveRule_1 : decode cX4_moveRule 1 = .ok (.iload_n 1, 1) := by decide +kernel
theorem dX4_moveRule_2 : decode cX4_moveRule 2 = .ok (.iload_n 2, 1) := by decide +kernel
theorem dX4_moveRule_3 : decode cX4_moveRule 3 = .ok (.invokevirtual 102, 3) := by decide +kernel
theorem dX4_moveRule_6 : decode cX4_moveRule 6 = .ok (.ifCond .eq 12, 3) := by decide +kernel
theorem dX4_moveRule_9 : decode cX4_moveRule 9 = .ok (.aload_n 0, 1) := by decide +kernel
theorem dX4_moveRule_10 : decode cX4_moveRule 10 = .ok (.iload_n 1, 1) := by decide +kernel
theorem dX4_moveRule_11 : decode cX4_moveRule 11 = .ok (.iload_n 3, 1) := by decide +kernel
theorem dX4_moveRule_12 : decode cX4_moveRule 12 = .ok (.invokevirtual 102, 3) := by decide +kernel
theorem dX4_moveRule_15 : decode cX4_moveRule 15 = .ok (.ifCond .ne 5, 3) := by decide +kernel
theorem dX4_moveRule_18 : decode cX4_moveRule 18 = .ok (.iconst (-1), 1) := by decide +kernel
theorem dX4_moveRule_19 : decode cX4_moveRule 19 = .ok (.ireturn, 1) := by decide +kernel
theorem dX4_moveRule_20 : decode cX4_moveRule 20 = .ok (.iload_n 2, 1) := by decide +kernel
theorem dX4_moveRule_21 : decode cX4_moveRule 21 = .ok (.iload_n 3, 1) := by decide +kernel
theorem dX4_moveRule_22 : decode cX4_moveRule 22 = .ok (.if_icmp .ne 6, 3) := by decide +kernel
theorem dX4_moveRule_25 : decode cX4_moveRule 25 = .ok (.bipush (-3), 2) := by decide +kernel
theorem dX4_moveRule_27 : decode cX4_moveRule 27 = .ok (.ireturn, 1) := by decide +kernel
theorem dX4_moveRule_28 : decode cX4_moveRule 28 = .ok (.aload_n 0, 1) := by decide +kernel
theorem dX4_moveRule_29 : decode cX4_moveRule 29 = .ok (.iload_n 1, 1) := by decide +kernel
theorem dX4_moveRule_30 : decode cX4_moveRule 30 = .ok (.invokevirtual 90, 3) := by decide +kernel
theorem dX4_moveRule_33 : decode cX4_moveRule 33 = .ok (.astore 4, 2) := by decide +kernel
theorem dX4_moveRule_35 : decode cX4_moveRule 35 = .ok (.aload_n 0, 1) := by decide +kernel
theorem dX4_moveRule_36 : decode cX4_moveRule 36 = .ok (.getfield 29, 3) := by decide +kernel
theorem dX4_moveRule_39 : decode cX4_moveRule 39 = .ok (.iload_n 1, 1) := by decide +kernel
theorem dX4_moveRule_40 : decode cX4_moveRule 40 = .ok (.aload 4, 2) := by decide +kernel
theorem dX4_moveRule_42 : decode cX4_moveRule 42 = .ok (.invokevirtual 94, 3) := by decide +kernel
theorem dX4_moveRule_45 : decode cX4_moveRule 45 = .ok (.aload 4, 2) := by decide +kernel
theorem dX4_moveRule_47 : decode cX4_moveRule 47 = .ok (.iload_n 2, 1) := by decide +kernel
theorem dX4_moveRule_48 : decode cX4_moveRule 48 = .ok (.iload_n 3, 1) := by decide +kernel
theorem dX4_moveRule_49 : decode cX4_moveRule 49 = .ok (.invokevirtual 110, 3) := by decide +kernel
theorem dX4_moveRule_52 : decode cX4_moveRule 52 = .ok (.aload 4, 2) := by decide +kernel
theorem dX4_moveRule_54 : decode cX4_moveRule 54 = .ok (.iload_n 3, 1) := by decide +kernel
theorem dX4_moveRule_55 : decode cX4_moveRule 55 = .ok (.invokevirtual 113, 3) := by decide +kernel
theorem dX4_moveRule_58 : decode cX4_moveRule 58 = .ok (.ireturn, 1) := by decide +kernel
theorem dX4_setAlgorithm_0 : decode cX4_setAlgorithm 0 = .ok (.iload_n 1, 1) := by decide +kernel
theorem dX4_setAlgorithm_1 : decode cX4_setAlgorithm 1 = .ok (.invokestatic 83, 3) := by decide +kernel
theorem dX4_setAlgorithm_4 : decode cX4_setAlgorithm 4 = .ok (.ifCond .eq 12, 3) := by decide +kernel
theorem dX4_setAlgorithm_7 : decode cX4_setAlgorithm 7 = .ok (.iload_n 2, 1) := by decide +kernel
theorem dX4_setAlgorithm_8 : decode cX4_setAlgorithm 8 = .ok (.ifCond .lt 8, 3) := by decide +kernel
theorem dX4_setAlgorithm_11 : decode cX4_setAlgorithm 11 = .ok (.iload_n 2, 1) := by decide +kernel
theorem dX4_setAlgorithm_12 : decode cX4_setAlgorithm 12 = .ok (.iconst 4, 1) := by decide +kernel
theorem dX4_setAlgorithm_13 : decode cX4_setAlgorithm 13 = .ok (.if_icmp .le 5, 3) := by decide +kernel
theorem dX4_setAlgorithm_16 : decode cX4_setAlgorithm 16 = .ok (.iconst (-1), 1) := by decide +kernel
theorem dX4_setAlgorithm_17 : decode cX4_setAlgorithm 17 = .ok (.ireturn, 1) := by decide +kernel
theorem dX4_setAlgorithm_18 : decode cX4_setAlgorithm 18 = .ok (.aload_n 0, 1) := by decide +kernel
theorem dX4_setAlgorithm_19 : decode cX4_setAlgorithm 19 = .ok (.iload_n 1, 1) := by decide +kernel
theorem dX4_setAlgorithm_20 : decode cX4_setAlgorithm 20 = .ok (.invokevirtual 90, 3) := by decide +kernel
theorem dX4_setAlgorithm_23 : decode cX4_setAlgorithm 23 = .ok (.astore_n 3, 1) := by decide +kernel
theorem dX4_setAlgorithm_24 : decode cX4_setAlgorithm 24 = .ok (.aload_n 3, 1) := by decide +kernel
theorem dX4_setAlgorithm_25 : decode cX4_setAlgorithm 25 = .ok (.invokevirtual 117, 3) := by decide +kernel
theorem dX4_setAlgorithm_28 : decode cX4_setAlgorithm 28 = .ok (.istore 4, 2) := by decide +kernel
theorem dX4_setAlgorithm_30 : decode cX4_setAlgorithm 30 = .ok (.iload 4, 2) := by decide +kernel
theorem dX4_setAlgorithm_32 : decode cX4_setAlgorithm 32 = .ok (.iload_n 2, 1) := by decide +kernel
theorem dX4_setAlgorithm_33 : decode cX4_setAlgorithm 33 = .ok (.if_icmp .ne 6, 3) := by decide +kernel
theorem dX4_setAlgorithm_36 : decode cX4_setAlgorithm 36 = .ok (.bipush (-3), 2) := by decide +kernel
theorem dX4_setAlgorithm_38 : decode cX4_setAlgorithm 38 = .ok (.ireturn, 1) := by decide +kernel
theorem dX4_setAlgorithm_39 : decode cX4_setAlgorithm 39 = .ok (.aload_n 0, 1) := by decide +kernel
theorem dX4_setAlgorithm_40 : decode cX4_setAlgorithm 40 = .ok (.getfield 29, 3) := by decide +kernel
theorem dX4_setAlgorithm_43 : decode cX4_setAlgorithm 43 = .ok (.iload_n 1, 1) := by decide +kernel
theorem dX4_setAlgorithm_44 : decode cX4_setAlgorithm 44 = .ok (.aload_n 3, 1) := by decide +kernel
theorem dX4_setAlgorithm_45 : decode cX4_setAlgorithm 45 = .ok (.invokevirtual 94, 3) := by decide +kernel
theorem dX4_setAlgorithm_48 : decode cX4_setAlgorithm 48 = .ok (.aload_n 3, 1) := by decide +kernel
theorem dX4_setAlgorithm_49 : decode cX4_setAlgorithm 49 = .ok (.iload_n 2, 1) := by decide +kernel
theorem dX4_setAlgorithm_50 : decode cX4_setAlgorithm 50 = .ok (.invokevirtual 120, 3) := by decide +kernel
theorem dX4_setAlgorithm_53 : decode cX4_setAlgorithm 53 = .ok (.iload 4, 2) := by decide +kernel
theorem dX4_setAlgorithm_55 : decode cX4_setAlgorithm 55 = .ok (.ireturn, 1) := by decide +kernel
theorem dX4_setTarget_0 : decode cX4_setTarget 0 = .ok (.aload_n 0, 1) := by decide +kernel
theorem dX4_setTarget_1 : decode cX4_setTarget 1 = .ok (.iload_n 1, 1) := by decide +kernel
theorem dX4_setTarget_2 : decode cX4_setTarget 2 = .ok (.iload_n 2, 1) := by decide +kernel
theorem dX4_setTarget_3 : decode cX4_setTarget 3 = .ok (.invokevirtual 102, 3) := by decide +kernel
theorem dX4_setTarget_6 : decode cX4_setTarget 6 = .ok (.ifCond .eq 19, 3) := by decide +kernel
theorem dX4_setTarget_9 : decode cX4_setTarget 9 = .ok (.iload_n 3, 1) := by decide +kernel
theorem dX4_setTarget_10 : decode cX4_setTarget 10 = .ok (.invokestatic 123, 3) := by decide +kernel
theorem dX4_setTarget_13 : decode cX4_setTarget 13 = .ok (.ifCond .eq 12, 3) := by decide +kernel
theorem dX4_setTarget_16 : decode cX4_setTarget 16 = .ok (.iload_n 3, 1) := by decide +kernel
theorem dX4_setTarget_17 : decode cX4_setTarget 17 = .ok (.iload 4, 2) := by decide +kernel
theorem dX4_setTarget_19 : decode cX4_setTarget 19 = .ok (.invokestatic 126, 3) := by decide +kernel
theorem dX4_setTarget_22 : decode cX4_setTarget 22 = .ok (.ifCond .ne 5, 3) := by decide +kernel
theorem dX4_setTarget_25 : decode cX4_setTarget 25 = .ok (.iconst (-1), 1) := by decide +kernel
theorem dX4_setTarget_26 : decode cX4_setTarget 26 = .ok (.ireturn, 1) := by decide +kernel
theorem dX4_setTarget_27 : decode cX4_setTarget 27 = .ok (.aload_n 0, 1) := by decide +kernel
theorem dX4_setTarget_28 : decode cX4_setTarget 28 = .ok (.iload_n 1, 1) := by decide +kernel
theorem dX4_setTarget_29 : decode cX4_setTarget 29 = .ok (.invokevirtual 90, 3) := by decide +kernel
theorem dX4_setTarget_32 : decode cX4_setTarget 32 = .ok (.astore 5, 2) := by decide +kernel
theorem dX4_setTarget_34 : decode cX4_setTarget 34 = .ok (.aload 5, 2) := by decide +kernel
theorem dX4_setTarget_36 : decode cX4_setTarget 36 = .ok (.iload_n 2, 1) := by decide +kernel
theorem dX4_setTarget_37 : decode cX4_setTarget 37 = .ok (.iload_n 3, 1) := by decide +kernel
theorem dX4_setTarget_38 : decode cX4_setTarget 38 = .ok (.invokevirtual 129, 3) := by decide +kernel
theorem dX4_setTarget_41 : decode cX4_setTarget 41 = .ok (.istore 6, 2) := by decide +kernel
theorem dX4_setTarget_43 : decode cX4_setTarget 43 = .ok (.iload 6, 2) := by decide +kernel
theorem dX4_setTarget_45 : decode cX4_setTarget 45 = .ok (.iload 4, 2) := by decide +kernel
theorem dX4_setTarget_47 : decode cX4_setTarget 47 = .ok (.if_icmp .ne 6, 3) := by decide +kernel
theorem dX4_setTarget_50 : decode cX4_setTarget 50 = .ok (.bipush (-3), 2) := by decide +kernel
theorem dX4_setTarget_52 : decode cX4_setTarget 52 = .ok (.ireturn, 1) := by decide +kernel
theorem dX4_setTarget_53 : decode cX4_setTarget 53 = .ok (.aload_n 0, 1) := by decide +kernel
theorem dX4_setTarget_54 : decode cX4_setTarget 54 = .ok (.getfield 29, 3) := by decide +kernel
theorem dX4_setTarget_57 : decode cX4_setTarget 57 = .ok (.iload_n 1, 1) := by decide +kernel
theorem dX4_setTarget_58 : decode cX4_setTarget 58 = .ok (.aload 5, 2) := by decide +kernel
theorem dX4_setTarget_60 : decode cX4_setTarget 60 = .ok (.invokevirtual 94, 3) := by decide +kernel
theorem dX4_setTarget_63 : decode cX4_setTarget 63 = .ok (.aload 5, 2) := by decide +kernel
theorem dX4_setTarget_65 : decode cX4_setTarget 65 = .ok (.iload_n 2, 1) := by decide +kernel
theorem dX4_setTarget_66 : decode cX4_setTarget 66 = .ok (.iload_n 3, 1) := by decide +kernel
theorem dX4_setTarget_67 : decode cX4_setTarget 67 = .ok (.iload 4, 2) := by decide +kernel
theorem dX4_setTarget_69 : decode cX4_setTarget 69 = .ok (.invokevirtual 133, 3) := by decide +kernel
theorem dX4_setTarget_72 : decode cX4_setTarget 72 = .ok (.iload 6, 2) := by decide +kernel
theorem dX4_setTarget_74 : decode cX4_setTarget 74 = .ok (.ireturn, 1) := by decide +kernel
theorem dX4_flipEffect_0 : decode cX4_flipEffect 0 = .ok (.aload_n 0, 1) := by decide +kernel
theorem dX4_flipEffect_1 : decode cX4_flipEffect 1 = .ok (.iload_n 1, 1) := by decide +kernel
theorem dX4_flipEffect_2 : decode cX4_flipEffect 2 = .ok (.iload_n 2, 1) := by decide +kernel
theorem dX4_flipEffect_3 : decode cX4_flipEffect 3 = .ok (.invokevirtual 102, 3) := by decide +kernel
theorem dX4_flipEffect_6 : decode cX4_flipEffect 6 = .ok (.ifCond .ne 5, 3) := by decide +kernel
theorem dX4_flipEffect_9 : decode cX4_flipEffect 9 = .ok (.iconst (-1), 1) := by decide +kernel
theorem dX4_flipEffect_10 : decode cX4_flipEffect 10 = .ok (.ireturn, 1) := by decide +kernel
theorem dX4_flipEffect_11 : decode cX4_flipEffect 11 = .ok (.aload_n 0, 1) := by decide +kernel
theorem dX4_flipEffect_12 : decode cX4_flipEffect 12 = .ok (.iload_n 1, 1) := by decide +kernel
theorem dX4_flipEffect_13 : decode cX4_flipEffect 13 = .ok (.invokevirtual 90, 3) := by decide +kernel
theorem dX4_flipEffect_16 : decode cX4_flipEffect 16 = .ok (.astore_n 3, 1) := by decide +kernel
theorem dX4_flipEffect_17 : decode cX4_flipEffect 17 = .ok (.aload_n 0, 1) := by decide +kernel
theorem dX4_flipEffect_18 : decode cX4_flipEffect 18 = .ok (.getfield 29, 3) := by decide +kernel
theorem dX4_flipEffect_21 : decode cX4_flipEffect 21 = .ok (.iload_n 1, 1) := by decide +kernel
theorem dX4_flipEffect_22 : decode cX4_flipEffect 22 = .ok (.aload_n 3, 1) := by decide +kernel
theorem dX4_flipEffect_23 : decode cX4_flipEffect 23 = .ok (.invokevirtual 94, 3) := by decide +kernel
theorem dX4_flipEffect_26 : decode cX4_flipEffect 26 = .ok (.aload_n 3, 1) := by decide +kernel
theorem dX4_flipEffect_27 : decode cX4_flipEffect 27 = .ok (.iload_n 2, 1) := by decide +kernel
theorem dX4_flipEffect_28 : decode cX4_flipEffect 28 = .ok (.invokevirtual 137, 3) := by decide +kernel
theorem dX4_flipEffect_31 : decode cX4_flipEffect 31 = .ok (.aload_n 3, 1) := by decide +kernel
theorem dX4_flipEffect_32 : decode cX4_flipEffect 32 = .ok (.iload_n 2, 1) := by decide +kernel
theorem dX4_flipEffect_33 : decode cX4_flipEffect 33 = .ok (.invokevirtual 113, 3) := by decide +kernel
theorem dX4_flipEffect_36 : decode cX4_flipEffect 36 = .ok (.ireturn, 1) := by decide +kernel
theorem dX4_copyOldToNew_0 : decode cX4_copyOldToNew 0 = .ok (.aload_n 0, 1) := by decide +kernel
theorem dX4_copyOldToNew_1 : decode cX4_copyOldToNew 1 = .ok (.getfield 29, 3) := by decide +kernel
theorem dX4_copyOldToNew_4 : decode cX4_copyOldToNew 4 = .ok (.iconst 1, 1) := by decide +kernel
theorem dX4_copyOldToNew_5 : decode cX4_copyOldToNew 5 = .ok (.aload_n 0, 1) := by decide +kernel
theorem dX4_copyOldToNew_6 : decode cX4_copyOldToNew 6 = .ok (.getfield 16, 3) := by decide +kernel
theorem dX4_copyOldToNew_9 : decode cX4_copyOldToNew 9 = .ok (.invokevirtual 94, 3) := by decide +kernel
theorem dX4_copyOldToNew_12 : decode cX4_copyOldToNew 12 = .ok (.aload_n 0, 1) := by decide +kernel
theorem dX4_copyOldToNew_13 : decode cX4_copyOldToNew 13 = .ok (.getfield 16, 3) := by decide +kernel
theorem dX4_copyOldToNew_16 : decode cX4_copyOldToNew 16 = .ok (.aload_n 0, 1) := by decide +kernel
theorem dX4_copyOldToNew_17 : decode cX4_copyOldToNew 17 = .ok (.getfield 10, 3) := by decide +kernel
theorem dX4_copyOldToNew_20 : decode cX4_copyOldToNew 20 = .ok (.invokevirtual 76, 3) := by decide +kernel
theorem dX4_copyOldToNew_23 : decode cX4_copyOldToNew 23 = .ok (.aload_n 0, 1) := by decide +kernel
theorem dX4_copyOldToNew_24 : decode cX4_copyOldToNew 24 = .ok (.getfield 16, 3) := by decide +kernel
theorem dX4_copyOldToNew_27 : decode cX4_copyOldToNew 27 = .ok (.invokevirtual 69, 3) := by decide +kernel
theorem dX4_copyOldToNew_30 : decode cX4_copyOldToNew 30 = .ok (.ireturn, 1) := by decide +kernel
theorem dX4_undo_0 : decode cX4_undo 0 = .ok (.aload_n 0, 1) := by decide +kernel
theorem dX4_undo_1 : decode cX4_undo 1 = .ok (.getfield 29, 3) := by decide +kernel
theorem dX4_undo_4 : decode cX4_undo 4 = .ok (.invokevirtual 140, 3) := by decide +kernel
theorem dX4_undo_7 : decode cX4_undo 7 = .ok (.ifCond .ne 6, 3) := by decide +kernel
theorem dX4_undo_10 : decode cX4_undo 10 = .ok (.bipush (-3), 2) := by decide +kernel
theorem dX4_undo_12 : decode cX4_undo 12 = .ok (.ireturn, 1) := by decide +kernel
theorem dX4_undo_13 : decode cX4_undo 13 = .ok (.aload_n 0, 1) := by decide +kernel
theorem dX4_undo_14 : decode cX4_undo 14 = .ok (.getfield 29, 3) := by decide +kernel
theorem dX4_undo_17 : decode cX4_undo 17 = .ok (.aload_n 0, 1) := by decide +kernel
theorem dX4_undo_18 : decode cX4_undo 18 = .ok (.aload_n 0, 1) := by decide +kernel
theorem dX4_undo_19 : decode cX4_undo 19 = .ok (.getfield 29, 3) := by decide +kernel
theorem dX4_undo_22 : decode cX4_undo 22 = .ok (.invokevirtual 141, 3) := by decide +kernel
theorem dX4_undo_25 : decode cX4_undo 25 = .ok (.invokevirtual 90, 3) := by decide +kernel
theorem dX4_undo_28 : decode cX4_undo 28 = .ok (.invokevirtual 144, 3) := by decide +kernel
theorem dX4_undo_31 : decode cX4_undo 31 = .ok (.aload_n 0, 1) := by decide +kernel
theorem dX4_undo_32 : decode cX4_undo 32 = .ok (.getfield 29, 3) := by decide +kernel
theorem dX4_undo_35 : decode cX4_undo 35 = .ok (.invokevirtual 140, 3) := by decide +kernel
theorem dX4_undo_38 : decode cX4_undo 38 = .ok (.ireturn, 1) := by decide +kernel
theorem dX4_ruleCount_0 : decode cX4_ruleCount 0 = .ok (.iload_n 1, 1) := by decide +kernel
theorem dX4_ruleCount_1 : decode cX4_ruleCount 1 = .ok (.invokestatic 83, 3) := by decide +kernel
theorem dX4_ruleCount_4 : decode cX4_ruleCount 4 = .ok (.ifCond .eq 14, 3) := by decide +kernel
theorem dX4_ruleCount_7 : decode cX4_ruleCount 7 = .ok (.aload_n 0, 1) := by decide +kernel
theorem dX4_ruleCount_8 : decode cX4_ruleCount 8 = .ok (.iload_n 1, 1) := by decide +kernel
theorem dX4_ruleCount_9 : decode cX4_ruleCount 9 = .ok (.invokevirtual 90, 3) := by decide +kernel
theorem dX4_ruleCount_12 : decode cX4_ruleCount 12 = .ok (.invokevirtual 69, 3) := by decide +kernel
theorem dX4_ruleCount_15 : decode cX4_ruleCount 15 = .ok (.goto 4, 3) := by decide +kernel
theorem dX4_ruleCount_18 : decode cX4_ruleCount 18 = .ok (.iconst (-1), 1) := by decide +kernel
theorem dX4_ruleCount_19 : decode cX4_ruleCount 19 = .ok (.ireturn, 1) := by decide +kernel
theorem dX4_effectOf_0 : decode cX4_effectOf 0 = .ok (.aload_n 0, 1) := by decide +kernel
theorem dX4_effectOf_1 : decode cX4_effectOf 1 = .ok (.iload_n 1, 1) := by decide +kernel
theorem dX4_effectOf_2 : decode cX4_effectOf 2 = .ok (.iload_n 2, 1) := by decide +kernel
theorem dX4_effectOf_3 : decode cX4_effectOf 3 = .ok (.invokevirtual 102, 3) := by decide +kernel
theorem dX4_effectOf_6 : decode cX4_effectOf 6 = .ok (.ifCond .eq 15, 3) := by decide +kernel
theorem dX4_effectOf_9 : decode cX4_effectOf 9 = .ok (.aload_n 0, 1) := by decide +kernel
theorem dX4_effectOf_10 : decode cX4_effectOf 10 = .ok (.iload_n 1, 1) := by decide +kernel
theorem dX4_effectOf_11 : decode cX4_effectOf 11 = .ok (.invokevirtual 90, 3) := by decide +kernel
theorem dX4_effectOf_14 : decode cX4_effectOf 14 = .ok (.iload_n 2, 1) := by decide +kernel
theorem dX4_effectOf_15 : decode cX4_effectOf 15 = .ok (.invokevirtual 113, 3) := by decide +kernel
theorem dX4_effectOf_18 : decode cX4_effectOf 18 = .ok (.goto 4, 3) := by decide +kernel
theorem dX4_effectOf_21 : decode cX4_effectOf 21 = .ok (.iconst (-1), 1) := by decide +kernel
theorem dX4_effectOf_22 : decode cX4_effectOf 22 = .ok (.ireturn, 1) := by decide +kernel
theorem dX4_targetOf_0 : decode cX4_targetOf 0 = .ok (.aload_n 0, 1) := by decide +kernel
theorem dX4_targetOf_1 : decode cX4_targetOf 1 = .ok (.iload_n 1, 1) := by decide +kernel
theorem dX4_targetOf_2 : decode cX4_targetOf 2 = .ok (.iload_n 2, 1) := by decide +kernel
theorem dX4_targetOf_3 : decode cX4_targetOf 3 = .ok (.invokevirtual 102, 3) := by decide +kernel
theorem dX4_targetOf_6 : decode cX4_targetOf 6 = .ok (.ifCond .eq 10, 3) := by decide +kernel
theorem dX4_targetOf_9 : decode cX4_targetOf 9 = .ok (.iload_n 3, 1) := by decide +kernel
theorem dX4_targetOf_10 : decode cX4_targetOf 10 = .ok (.invokestatic 123, 3) := by decide +kernel
theorem dX4_targetOf_13 : decode cX4_targetOf 13 = .ok (.ifCond .ne 5, 3) := by decide +kernel
theorem dX4_targetOf_16 : decode cX4_targetOf 16 = .ok (.iconst (-1), 1) := by decide +kernel
theorem dX4_targetOf_17 : decode cX4_targetOf 17 = .ok (.ireturn, 1) := by decide +kernel
theorem dX4_targetOf_18 : decode cX4_targetOf 18 = .ok (.aload_n 0, 1) := by decide +kernel
theorem dX4_targetOf_19 : decode cX4_targetOf 19 = .ok (.iload_n 1, 1) := by decide +kernel
theorem dX4_targetOf_20 : decode cX4_targetOf 20 = .ok (.invokevirtual 90, 3) := by decide +kernel
theorem dX4_targetOf_23 : decode cX4_targetOf 23 = .ok (.iload_n 2, 1) := by decide +kernel
theorem dX4_targetOf_24 : decode cX4_targetOf 24 = .ok (.iload_n 3, 1) := by decide +kernel
theorem dX4_targetOf_25 : decode cX4_targetOf 25 = .ok (.invokevirtual 129, 3) := by decide +kernel
theorem dX4_targetOf_28 : decode cX4_targetOf 28 = .ok (.ireturn, 1) := by decide +kernel
theorem dX4_algorithmOf_0 : decode cX4_algorithmOf 0 = .ok (.iload_n 1, 1) := by decide +kernel
theorem dX4_algorithmOf_1 : decode cX4_algorithmOf 1 = .ok (.invokestatic 83, 3) := by decide +kernel
theorem dX4_algorithmOf_4 : decode cX4_algorithmOf 4 = .ok (.ifCond .eq 14, 3) := by decide +kernel
theorem dX4_algorithmOf_7 : decode cX4_algorithmOf 7 = .ok (.aload_n 0, 1) := by decide +kernel
theorem dX4_algorithmOf_8 : decode cX4_algorithmOf 8 = .ok (.iload_n 1, 1) := by decide +kernel
theorem dX4_algorithmOf_9 : decode cX4_algorithmOf 9 = .ok (.invokevirtual 90, 3) := by decide +kernel
theorem dX4_algorithmOf_12 : decode cX4_algorithmOf 12 = .ok (.invokevirtual 117, 3) := by decide +kernel
theorem dX4_algorithmOf_15 : decode cX4_algorithmOf 15 = .ok (.goto 4, 3) := by decide +kernel
theorem dX4_algorithmOf_18 : decode cX4_algorithmOf 18 = .ok (.iconst (-1), 1) := by decide +kernel
theorem dX4_algorithmOf_19 : decode cX4_algorithmOf 19 = .ok (.ireturn, 1) := by decide +kernel
theorem dX4_decide_0 : decode cX4_decide 0 = .ok (.iload_n 1, 1) := by decide +kernel
theorem dX4_decide_1 : decode cX4_decide 1 = .ok (.invokestatic 83, 3) := by decide +kernel
theorem dX4_decide_4 : decode cX4_decide 4 = .ok (.ifCond .eq 10, 3) := by decide +kernel
theorem dX4_decide_7 : decode cX4_decide 7 = .ok (.iload_n 2, 1) := by decide +kernel
theorem dX4_decide_8 : decode cX4_decide 8 = .ok (.invokestatic 147, 3) := by decide +kernel
theorem dX4_decide_11 : decode cX4_decide 11 = .ok (.ifCond .ne 5, 3) := by decide +kernel
theorem dX4_decide_14 : decode cX4_decide 14 = .ok (.iconst (-1), 1) := by decide +kernel
theorem dX4_decide_15 : decode cX4_decide 15 = .ok (.ireturn, 1) := by decide +kernel
theorem dX4_decide_16 : decode cX4_decide 16 = .ok (.aload_n 0, 1) := by decide +kernel
theorem dX4_decide_17 : decode cX4_decide 17 = .ok (.iload_n 1, 1) := by decide +kernel
theorem dX4_decide_18 : decode cX4_decide 18 = .ok (.invokevirtual 90, 3) := by decide +kernel
theorem dX4_decide_21 : decode cX4_decide 21 = .ok (.iload_n 2, 1) := by decide +kernel
theorem dX4_decide_22 : decode cX4_decide 22 = .ok (.invokevirtual 150, 3) := by decide +kernel
theorem dX4_decide_25 : decode cX4_decide 25 = .ok (.ireturn, 1) := by decide +kernel
theorem dX4_decisionCount_0 : decode cX4_decisionCount 0 = .ok (.iload_n 1, 1) := by decide +kernel
theorem dX4_decisionCount_1 : decode cX4_decisionCount 1 = .ok (.invokestatic 83, 3) := by decide +kernel
theorem dX4_decisionCount_4 : decode cX4_decisionCount 4 = .ok (.ifCond .eq 10, 3) := by decide +kernel
theorem dX4_decisionCount_7 : decode cX4_decisionCount 7 = .ok (.iload_n 2, 1) := by decide +kernel
theorem dX4_decisionCount_8 : decode cX4_decisionCount 8 = .ok (.invokestatic 153, 3) := by decide +kernel
theorem dX4_decisionCount_11 : decode cX4_decisionCount 11 = .ok (.ifCond .ne 5, 3) := by decide +kernel
theorem dX4_decisionCount_14 : decode cX4_decisionCount 14 = .ok (.iconst (-1), 1) := by decide +kernel
theorem dX4_decisionCount_15 : decode cX4_decisionCount 15 = .ok (.ireturn, 1) := by decide +kernel
theorem dX4_decisionCount_16 : decode cX4_decisionCount 16 = .ok (.aload_n 0, 1) := by decide +kernel
theorem dX4_decisionCount_17 : decode cX4_decisionCount 17 = .ok (.iload_n 1, 1) := by decide +kernel
theorem dX4_decisionCount_18 : decode cX4_decisionCount 18 = .ok (.invokevirtual 90, 3) := by decide +kernel
theorem dX4_decisionCount_21 : decode cX4_decisionCount 21 = .ok (.iload_n 2, 1) := by decide +kernel
theorem dX4_decisionCount_22 : decode cX4_decisionCount 22 = .ok (.invokestatic 156, 3) := by decide +kernel
theorem dX4_decisionCount_25 : decode cX4_decisionCount 25 = .ok (.ireturn, 1) := by decide +kernel
theorem dX4_applicableRules_0 : decode cX4_applicableRules 0 = .ok (.iload_n 1, 1) := by decide +kernel
theorem dX4_applicableRules_1 : decode cX4_applicableRules 1 = .ok (.invokestatic 83, 3) := by decide +kernel
theorem dX4_applicableRules_4 : decode cX4_applicableRules 4 = .ok (.ifCond .eq 10, 3) := by decide +kernel
theorem dX4_applicableRules_7 : decode cX4_applicableRules 7 = .ok (.iload_n 2, 1) := by decide +kernel
end
section
theorem dX4_applicableRules_8 : decode cX4_applicableRules 8 = .ok (.invokestatic 147, 3) := by decide +kernel
theorem dX4_applicableRules_11 : decode cX4_applicableRules 11 = .ok (.ifCond .ne 5, 3) := by decide +kernel
theorem dX4_applicableRules_14 : decode cX4_applicableRules 14 = .ok (.iconst (-1), 1) := by decide +kernel
theorem dX4_applicableRules_15 : decode cX4_applicableRules 15 = .ok (.ireturn, 1) := by decide +kernel
theorem dX4_applicableRules_16 : decode cX4_applicableRules 16 = .ok (.aload_n 0, 1) := by decide +kernel
theorem dX4_applicableRules_17 : decode cX4_applicableRules 17 = .ok (.iload_n 1, 1) := by decide +kernel
theorem dX4_applicableRules_18 : decode cX4_applicableRules 18 = .ok (.invokevirtual 90, 3) := by decide +kernel
theorem dX4_applicableRules_21 : decode cX4_applicableRules 21 = .ok (.iload_n 2, 1) := by decide +kernel
theorem dX4_applicableRules_22 : decode cX4_applicableRules 22 = .ok (.invokevirtual 160, 3) := by decide +kernel
theorem dX4_applicableRules_25 : decode cX4_applicableRules 25 = .ok (.invokestatic 163, 3) := by decide +kernel
theorem dX4_applicableRules_28 : decode cX4_applicableRules 28 = .ok (.ireturn, 1) := by decide +kernel
theorem dX4_requestsDecided_0 : decode cX4_requestsDecided 0 = .ok (.iconst 0, 1) := by decide +kernel
theorem dX4_requestsDecided_1 : decode cX4_requestsDecided 1 = .ok (.istore_n 2, 1) := by decide +kernel
theorem dX4_requestsDecided_2 : decode cX4_requestsDecided 2 = .ok (.iconst 0, 1) := by decide +kernel
theorem dX4_requestsDecided_3 : decode cX4_requestsDecided 3 = .ok (.istore_n 3, 1) := by decide +kernel
theorem dX4_requestsDecided_4 : decode cX4_requestsDecided 4 = .ok (.iload_n 3, 1) := by decide +kernel
theorem dX4_requestsDecided_5 : decode cX4_requestsDecided 5 = .ok (.sipush 1024, 3) := by decide +kernel
theorem dX4_requestsDecided_8 : decode cX4_requestsDecided 8 = .ok (.if_icmp .ge 21, 3) := by decide +kernel
theorem dX4_requestsDecided_11 : decode cX4_requestsDecided 11 = .ok (.aload_n 0, 1) := by decide +kernel
theorem dX4_requestsDecided_12 : decode cX4_requestsDecided 12 = .ok (.iload_n 3, 1) := by decide +kernel
theorem dX4_requestsDecided_13 : decode cX4_requestsDecided 13 = .ok (.invokevirtual 150, 3) := by decide +kernel
theorem dX4_requestsDecided_16 : decode cX4_requestsDecided 16 = .ok (.iload_n 1, 1) := by decide +kernel
theorem dX4_requestsDecided_17 : decode cX4_requestsDecided 17 = .ok (.if_icmp .ne 6, 3) := by decide +kernel
theorem dX4_requestsDecided_20 : decode cX4_requestsDecided 20 = .ok (.iinc 2 1, 3) := by decide +kernel
theorem dX4_requestsDecided_23 : decode cX4_requestsDecided 23 = .ok (.iinc 3 1, 3) := by decide +kernel
theorem dX4_requestsDecided_26 : decode cX4_requestsDecided 26 = .ok (.goto (-22), 3) := by decide +kernel
theorem dX4_requestsDecided_29 : decode cX4_requestsDecided 29 = .ok (.iload_n 2, 1) := by decide +kernel
theorem dX4_requestsDecided_30 : decode cX4_requestsDecided 30 = .ok (.ireturn, 1) := by decide +kernel
theorem dX4_gainCount_0 : decode cX4_gainCount 0 = .ok (.aload_n 0, 1) := by decide +kernel
theorem dX4_gainCount_1 : decode cX4_gainCount 1 = .ok (.getfield 16, 3) := by decide +kernel
theorem dX4_gainCount_4 : decode cX4_gainCount 4 = .ok (.aload_n 0, 1) := by decide +kernel
theorem dX4_gainCount_5 : decode cX4_gainCount 5 = .ok (.getfield 10, 3) := by decide +kernel
theorem dX4_gainCount_8 : decode cX4_gainCount 8 = .ok (.invokestatic 168, 3) := by decide +kernel
theorem dX4_gainCount_11 : decode cX4_gainCount 11 = .ok (.ireturn, 1) := by decide +kernel
theorem dX4_lossCount_0 : decode cX4_lossCount 0 = .ok (.aload_n 0, 1) := by decide +kernel
theorem dX4_lossCount_1 : decode cX4_lossCount 1 = .ok (.getfield 10, 3) := by decide +kernel
theorem dX4_lossCount_4 : decode cX4_lossCount 4 = .ok (.aload_n 0, 1) := by decide +kernel
theorem dX4_lossCount_5 : decode cX4_lossCount 5 = .ok (.getfield 16, 3) := by decide +kernel
theorem dX4_lossCount_8 : decode cX4_lossCount 8 = .ok (.invokestatic 168, 3) := by decide +kernel
theorem dX4_lossCount_11 : decode cX4_lossCount 11 = .ok (.ireturn, 1) := by decide +kernel
theorem dX4_gainCountOf_0 : decode cX4_gainCountOf 0 = .ok (.iload_n 1, 1) := by decide +kernel
theorem dX4_gainCountOf_1 : decode cX4_gainCountOf 1 = .ok (.invokestatic 123, 3) := by decide +kernel
theorem dX4_gainCountOf_4 : decode cX4_gainCountOf 4 = .ok (.ifCond .eq 16, 3) := by decide +kernel
theorem dX4_gainCountOf_7 : decode cX4_gainCountOf 7 = .ok (.iload_n 2, 1) := by decide +kernel
theorem dX4_gainCountOf_8 : decode cX4_gainCountOf 8 = .ok (.ifCond .lt 12, 3) := by decide +kernel
theorem dX4_gainCountOf_11 : decode cX4_gainCountOf 11 = .ok (.iload_n 2, 1) := by decide +kernel
theorem dX4_gainCountOf_12 : decode cX4_gainCountOf 12 = .ok (.getstatic 172, 3) := by decide +kernel
theorem dX4_gainCountOf_15 : decode cX4_gainCountOf 15 = .ok (.iload_n 1, 1) := by decide +kernel
theorem dX4_gainCountOf_16 : decode cX4_gainCountOf 16 = .ok (.iaload, 1) := by decide +kernel
theorem dX4_gainCountOf_17 : decode cX4_gainCountOf 17 = .ok (.if_icmp .lt 5, 3) := by decide +kernel
theorem dX4_gainCountOf_20 : decode cX4_gainCountOf 20 = .ok (.iconst (-1), 1) := by decide +kernel
theorem dX4_gainCountOf_21 : decode cX4_gainCountOf 21 = .ok (.ireturn, 1) := by decide +kernel
theorem dX4_gainCountOf_22 : decode cX4_gainCountOf 22 = .ok (.iconst 0, 1) := by decide +kernel
theorem dX4_gainCountOf_23 : decode cX4_gainCountOf 23 = .ok (.istore_n 3, 1) := by decide +kernel
theorem dX4_gainCountOf_24 : decode cX4_gainCountOf 24 = .ok (.iconst 0, 1) := by decide +kernel
theorem dX4_gainCountOf_25 : decode cX4_gainCountOf 25 = .ok (.istore 4, 2) := by decide +kernel
theorem dX4_gainCountOf_27 : decode cX4_gainCountOf 27 = .ok (.iload 4, 2) := by decide +kernel
theorem dX4_gainCountOf_29 : decode cX4_gainCountOf 29 = .ok (.sipush 1024, 3) := by decide +kernel
theorem dX4_gainCountOf_32 : decode cX4_gainCountOf 32 = .ok (.if_icmp .ge 38, 3) := by decide +kernel
theorem dX4_gainCountOf_35 : decode cX4_gainCountOf 35 = .ok (.iload 4, 2) := by decide +kernel
theorem dX4_gainCountOf_37 : decode cX4_gainCountOf 37 = .ok (.iload_n 1, 1) := by decide +kernel
theorem dX4_gainCountOf_38 : decode cX4_gainCountOf 38 = .ok (.invokestatic 176, 3) := by decide +kernel
theorem dX4_gainCountOf_41 : decode cX4_gainCountOf 41 = .ok (.iload_n 2, 1) := by decide +kernel
theorem dX4_gainCountOf_42 : decode cX4_gainCountOf 42 = .ok (.if_icmp .ne 22, 3) := by decide +kernel
theorem dX4_gainCountOf_45 : decode cX4_gainCountOf 45 = .ok (.aload_n 0, 1) := by decide +kernel
theorem dX4_gainCountOf_46 : decode cX4_gainCountOf 46 = .ok (.getfield 16, 3) := by decide +kernel
theorem dX4_gainCountOf_49 : decode cX4_gainCountOf 49 = .ok (.aload_n 0, 1) := by decide +kernel
theorem dX4_gainCountOf_50 : decode cX4_gainCountOf 50 = .ok (.getfield 10, 3) := by decide +kernel
theorem dX4_gainCountOf_53 : decode cX4_gainCountOf 53 = .ok (.iload 4, 2) := by decide +kernel
theorem dX4_gainCountOf_55 : decode cX4_gainCountOf 55 = .ok (.invokestatic 179, 3) := by decide +kernel
theorem dX4_gainCountOf_58 : decode cX4_gainCountOf 58 = .ok (.ifCond .eq 6, 3) := by decide +kernel
theorem dX4_gainCountOf_61 : decode cX4_gainCountOf 61 = .ok (.iinc 3 1, 3) := by decide +kernel
theorem dX4_gainCountOf_64 : decode cX4_gainCountOf 64 = .ok (.iinc 4 1, 3) := by decide +kernel
theorem dX4_gainCountOf_67 : decode cX4_gainCountOf 67 = .ok (.goto (-40), 3) := by decide +kernel
theorem dX4_gainCountOf_70 : decode cX4_gainCountOf 70 = .ok (.iload_n 3, 1) := by decide +kernel
theorem dX4_gainCountOf_71 : decode cX4_gainCountOf 71 = .ok (.ireturn, 1) := by decide +kernel
theorem dX4_nextGain_0 : decode cX4_nextGain 0 = .ok (.iload_n 1, 1) := by decide +kernel
theorem dX4_nextGain_1 : decode cX4_nextGain 1 = .ok (.invokestatic 147, 3) := by decide +kernel
theorem dX4_nextGain_4 : decode cX4_nextGain 4 = .ok (.ifCond .eq 18, 3) := by decide +kernel
theorem dX4_nextGain_7 : decode cX4_nextGain 7 = .ok (.aload_n 0, 1) := by decide +kernel
theorem dX4_nextGain_8 : decode cX4_nextGain 8 = .ok (.getfield 16, 3) := by decide +kernel
theorem dX4_nextGain_11 : decode cX4_nextGain 11 = .ok (.aload_n 0, 1) := by decide +kernel
theorem dX4_nextGain_12 : decode cX4_nextGain 12 = .ok (.getfield 10, 3) := by decide +kernel
theorem dX4_nextGain_15 : decode cX4_nextGain 15 = .ok (.iload_n 1, 1) := by decide +kernel
theorem dX4_nextGain_16 : decode cX4_nextGain 16 = .ok (.invokestatic 183, 3) := by decide +kernel
theorem dX4_nextGain_19 : decode cX4_nextGain 19 = .ok (.goto 4, 3) := by decide +kernel
theorem dX4_nextGain_22 : decode cX4_nextGain 22 = .ok (.iconst (-1), 1) := by decide +kernel
theorem dX4_nextGain_23 : decode cX4_nextGain 23 = .ok (.ireturn, 1) := by decide +kernel
theorem dX4_nextLoss_0 : decode cX4_nextLoss 0 = .ok (.iload_n 1, 1) := by decide +kernel
theorem dX4_nextLoss_1 : decode cX4_nextLoss 1 = .ok (.invokestatic 147, 3) := by decide +kernel
theorem dX4_nextLoss_4 : decode cX4_nextLoss 4 = .ok (.ifCond .eq 18, 3) := by decide +kernel
theorem dX4_nextLoss_7 : decode cX4_nextLoss 7 = .ok (.aload_n 0, 1) := by decide +kernel
theorem dX4_nextLoss_8 : decode cX4_nextLoss 8 = .ok (.getfield 10, 3) := by decide +kernel
theorem dX4_nextLoss_11 : decode cX4_nextLoss 11 = .ok (.aload_n 0, 1) := by decide +kernel
theorem dX4_nextLoss_12 : decode cX4_nextLoss 12 = .ok (.getfield 16, 3) := by decide +kernel
theorem dX4_nextLoss_15 : decode cX4_nextLoss 15 = .ok (.iload_n 1, 1) := by decide +kernel
theorem dX4_nextLoss_16 : decode cX4_nextLoss 16 = .ok (.invokestatic 183, 3) := by decide +kernel
theorem dX4_nextLoss_19 : decode cX4_nextLoss 19 = .ok (.goto 4, 3) := by decide +kernel
theorem dX4_nextLoss_22 : decode cX4_nextLoss 22 = .ok (.iconst (-1), 1) := by decide +kernel
theorem dX4_nextLoss_23 : decode cX4_nextLoss 23 = .ok (.ireturn, 1) := by decide +kernel
theorem dX4_transitionCount_0 : decode cX4_transitionCount 0 = .ok (.iload_n 1, 1) := by decide +kernel
theorem dX4_transitionCount_1 : decode cX4_transitionCount 1 = .ok (.invokestatic 153, 3) := by decide +kernel
theorem dX4_transitionCount_4 : decode cX4_transitionCount 4 = .ok (.ifCond .eq 10, 3) := by decide +kernel
theorem dX4_transitionCount_7 : decode cX4_transitionCount 7 = .ok (.iload_n 2, 1) := by decide +kernel
theorem dX4_transitionCount_8 : decode cX4_transitionCount 8 = .ok (.invokestatic 153, 3) := by decide +kernel
theorem dX4_transitionCount_11 : decode cX4_transitionCount 11 = .ok (.ifCond .ne 5, 3) := by decide +kernel
theorem dX4_transitionCount_14 : decode cX4_transitionCount 14 = .ok (.iconst (-1), 1) := by decide +kernel
theorem dX4_transitionCount_15 : decode cX4_transitionCount 15 = .ok (.ireturn, 1) := by decide +kernel
theorem dX4_transitionCount_16 : decode cX4_transitionCount 16 = .ok (.iconst 0, 1) := by decide +kernel
theorem dX4_transitionCount_17 : decode cX4_transitionCount 17 = .ok (.istore_n 3, 1) := by decide +kernel
theorem dX4_transitionCount_18 : decode cX4_transitionCount 18 = .ok (.iconst 0, 1) := by decide +kernel
theorem dX4_transitionCount_19 : decode cX4_transitionCount 19 = .ok (.istore 4, 2) := by decide +kernel
theorem dX4_transitionCount_21 : decode cX4_transitionCount 21 = .ok (.iload 4, 2) := by decide +kernel
theorem dX4_transitionCount_23 : decode cX4_transitionCount 23 = .ok (.sipush 1024, 3) := by decide +kernel
theorem dX4_transitionCount_26 : decode cX4_transitionCount 26 = .ok (.if_icmp .ge 38, 3) := by decide +kernel
theorem dX4_transitionCount_29 : decode cX4_transitionCount 29 = .ok (.aload_n 0, 1) := by decide +kernel
theorem dX4_transitionCount_30 : decode cX4_transitionCount 30 = .ok (.getfield 10, 3) := by decide +kernel
theorem dX4_transitionCount_33 : decode cX4_transitionCount 33 = .ok (.iload 4, 2) := by decide +kernel
theorem dX4_transitionCount_35 : decode cX4_transitionCount 35 = .ok (.invokevirtual 150, 3) := by decide +kernel
theorem dX4_transitionCount_38 : decode cX4_transitionCount 38 = .ok (.iload_n 1, 1) := by decide +kernel
theorem dX4_transitionCount_39 : decode cX4_transitionCount 39 = .ok (.if_icmp .ne 19, 3) := by decide +kernel
theorem dX4_transitionCount_42 : decode cX4_transitionCount 42 = .ok (.aload_n 0, 1) := by decide +kernel
theorem dX4_transitionCount_43 : decode cX4_transitionCount 43 = .ok (.getfield 16, 3) := by decide +kernel
theorem dX4_transitionCount_46 : decode cX4_transitionCount 46 = .ok (.iload 4, 2) := by decide +kernel
theorem dX4_transitionCount_48 : decode cX4_transitionCount 48 = .ok (.invokevirtual 150, 3) := by decide +kernel
theorem dX4_transitionCount_51 : decode cX4_transitionCount 51 = .ok (.iload_n 2, 1) := by decide +kernel
theorem dX4_transitionCount_52 : decode cX4_transitionCount 52 = .ok (.if_icmp .ne 6, 3) := by decide +kernel
theorem dX4_transitionCount_55 : decode cX4_transitionCount 55 = .ok (.iinc 3 1, 3) := by decide +kernel
theorem dX4_transitionCount_58 : decode cX4_transitionCount 58 = .ok (.iinc 4 1, 3) := by decide +kernel
theorem dX4_transitionCount_61 : decode cX4_transitionCount 61 = .ok (.goto (-40), 3) := by decide +kernel
theorem dX4_transitionCount_64 : decode cX4_transitionCount 64 = .ok (.iload_n 3, 1) := by decide +kernel
theorem dX4_transitionCount_65 : decode cX4_transitionCount 65 = .ok (.ireturn, 1) := by decide +kernel
theorem dX4_grantedShareBits_0 : decode cX4_grantedShareBits 0 = .ok (.iload_n 1, 1) := by decide +kernel
theorem dX4_grantedShareBits_1 : decode cX4_grantedShareBits 1 = .ok (.invokestatic 83, 3) := by decide +kernel
theorem dX4_grantedShareBits_4 : decode cX4_grantedShareBits 4 = .ok (.ifCond .ne 5, 3) := by decide +kernel
theorem dX4_grantedShareBits_7 : decode cX4_grantedShareBits 7 = .ok (.iconst (-1), 1) := by decide +kernel
theorem dX4_grantedShareBits_8 : decode cX4_grantedShareBits 8 = .ok (.ireturn, 1) := by decide +kernel
theorem dX4_grantedShareBits_9 : decode cX4_grantedShareBits 9 = .ok (.aload_n 0, 1) := by decide +kernel
theorem dX4_grantedShareBits_10 : decode cX4_grantedShareBits 10 = .ok (.iload_n 1, 1) := by decide +kernel
theorem dX4_grantedShareBits_11 : decode cX4_grantedShareBits 11 = .ok (.invokevirtual 90, 3) := by decide +kernel
theorem dX4_grantedShareBits_14 : decode cX4_grantedShareBits 14 = .ok (.iconst 0, 1) := by decide +kernel
theorem dX4_grantedShareBits_15 : decode cX4_grantedShareBits 15 = .ok (.invokestatic 156, 3) := by decide +kernel
theorem dX4_grantedShareBits_18 : decode cX4_grantedShareBits 18 = .ok (.invokestatic 187, 3) := by decide +kernel
theorem dX4_grantedShareBits_21 : decode cX4_grantedShareBits 21 = .ok (.ireturn, 1) := by decide +kernel
theorem dX4_isGrantedOnlyBy_0 : decode cX4_isGrantedOnlyBy 0 = .ok (.aload_n 0, 1) := by decide +kernel
theorem dX4_isGrantedOnlyBy_1 : decode cX4_isGrantedOnlyBy 1 = .ok (.iload_n 2, 1) := by decide +kernel
theorem dX4_isGrantedOnlyBy_2 : decode cX4_isGrantedOnlyBy 2 = .ok (.invokevirtual 150, 3) := by decide +kernel
theorem dX4_isGrantedOnlyBy_5 : decode cX4_isGrantedOnlyBy 5 = .ok (.ifCond .ne 15, 3) := by decide +kernel
theorem dX4_isGrantedOnlyBy_8 : decode cX4_isGrantedOnlyBy 8 = .ok (.aload_n 1, 1) := by decide +kernel
theorem dX4_isGrantedOnlyBy_9 : decode cX4_isGrantedOnlyBy 9 = .ok (.iload_n 2, 1) := by decide +kernel
theorem dX4_isGrantedOnlyBy_10 : decode cX4_isGrantedOnlyBy 10 = .ok (.invokevirtual 150, 3) := by decide +kernel
theorem dX4_isGrantedOnlyBy_13 : decode cX4_isGrantedOnlyBy 13 = .ok (.ifCond .eq 7, 3) := by decide +kernel
theorem dX4_isGrantedOnlyBy_16 : decode cX4_isGrantedOnlyBy 16 = .ok (.iconst 1, 1) := by decide +kernel
theorem dX4_isGrantedOnlyBy_17 : decode cX4_isGrantedOnlyBy 17 = .ok (.goto 4, 3) := by decide +kernel
theorem dX4_isGrantedOnlyBy_20 : decode cX4_isGrantedOnlyBy 20 = .ok (.iconst 0, 1) := by decide +kernel
theorem dX4_isGrantedOnlyBy_21 : decode cX4_isGrantedOnlyBy 21 = .ok (.ireturn, 1) := by decide +kernel
theorem dX4_countGranted_0 : decode cX4_countGranted 0 = .ok (.iconst 0, 1) := by decide +kernel
theorem dX4_countGranted_1 : decode cX4_countGranted 1 = .ok (.istore_n 2, 1) := by decide +kernel
theorem dX4_countGranted_2 : decode cX4_countGranted 2 = .ok (.iconst 0, 1) := by decide +kernel
theorem dX4_countGranted_3 : decode cX4_countGranted 3 = .ok (.istore_n 3, 1) := by decide +kernel
theorem dX4_countGranted_4 : decode cX4_countGranted 4 = .ok (.iload_n 3, 1) := by decide +kernel
theorem dX4_countGranted_5 : decode cX4_countGranted 5 = .ok (.sipush 1024, 3) := by decide +kernel
theorem dX4_countGranted_8 : decode cX4_countGranted 8 = .ok (.if_icmp .ge 21, 3) := by decide +kernel
theorem dX4_countGranted_11 : decode cX4_countGranted 11 = .ok (.aload_n 0, 1) := by decide +kernel
theorem dX4_countGranted_12 : decode cX4_countGranted 12 = .ok (.aload_n 1, 1) := by decide +kernel
theorem dX4_countGranted_13 : decode cX4_countGranted 13 = .ok (.iload_n 3, 1) := by decide +kernel
theorem dX4_countGranted_14 : decode cX4_countGranted 14 = .ok (.invokestatic 179, 3) := by decide +kernel
theorem dX4_countGranted_17 : decode cX4_countGranted 17 = .ok (.ifCond .eq 6, 3) := by decide +kernel
theorem dX4_countGranted_20 : decode cX4_countGranted 20 = .ok (.iinc 2 1, 3) := by decide +kernel
theorem dX4_countGranted_23 : decode cX4_countGranted 23 = .ok (.iinc 3 1, 3) := by decide +kernel
theorem dX4_countGranted_26 : decode cX4_countGranted 26 = .ok (.goto (-22), 3) := by decide +kernel
theorem dX4_countGranted_29 : decode cX4_countGranted 29 = .ok (.iload_n 2, 1) := by decide +kernel
theorem dX4_countGranted_30 : decode cX4_countGranted 30 = .ok (.ireturn, 1) := by decide +kernel
theorem dX4_nextGranted_0 : decode cX4_nextGranted 0 = .ok (.iload_n 2, 1) := by decide +kernel
theorem dX4_nextGranted_1 : decode cX4_nextGranted 1 = .ok (.istore_n 3, 1) := by decide +kernel
theorem dX4_nextGranted_2 : decode cX4_nextGranted 2 = .ok (.iload_n 3, 1) := by decide +kernel
theorem dX4_nextGranted_3 : decode cX4_nextGranted 3 = .ok (.sipush 1024, 3) := by decide +kernel
theorem dX4_nextGranted_6 : decode cX4_nextGranted 6 = .ok (.if_icmp .ge 20, 3) := by decide +kernel
theorem dX4_nextGranted_9 : decode cX4_nextGranted 9 = .ok (.aload_n 0, 1) := by decide +kernel
theorem dX4_nextGranted_10 : decode cX4_nextGranted 10 = .ok (.aload_n 1, 1) := by decide +kernel
theorem dX4_nextGranted_11 : decode cX4_nextGranted 11 = .ok (.iload_n 3, 1) := by decide +kernel
theorem dX4_nextGranted_12 : decode cX4_nextGranted 12 = .ok (.invokestatic 179, 3) := by decide +kernel
theorem dX4_nextGranted_15 : decode cX4_nextGranted 15 = .ok (.ifCond .eq 5, 3) := by decide +kernel
theorem dX4_nextGranted_18 : decode cX4_nextGranted 18 = .ok (.iload_n 3, 1) := by decide +kernel
theorem dX4_nextGranted_19 : decode cX4_nextGranted 19 = .ok (.ireturn, 1) := by decide +kernel
theorem dX4_nextGranted_20 : decode cX4_nextGranted 20 = .ok (.iinc 3 1, 3) := by decide +kernel
theorem dX4_nextGranted_23 : decode cX4_nextGranted 23 = .ok (.goto (-21), 3) := by decide +kernel
theorem dX4_nextGranted_26 : decode cX4_nextGranted 26 = .ok (.bipush (-4), 2) := by decide +kernel
theorem dX4_nextGranted_28 : decode cX4_nextGranted 28 = .ok (.ireturn, 1) := by decide +kernel
theorem dX4_shareBits_0 : decode cX4_shareBits 0 = .ok (.iload_n 0, 1) := by decide +kernel
theorem dX4_shareBits_1 : decode cX4_shareBits 1 = .ok (.ifCond .gt 5, 3) := by decide +kernel
theorem dX4_shareBits_4 : decode cX4_shareBits 4 = .ok (.iconst 0, 1) := by decide +kernel
theorem dX4_shareBits_5 : decode cX4_shareBits 5 = .ok (.ireturn, 1) := by decide +kernel
theorem dX4_shareBits_6 : decode cX4_shareBits 6 = .ok (.bipush 31, 2) := by decide +kernel
theorem dX4_shareBits_8 : decode cX4_shareBits 8 = .ok (.iload_n 0, 1) := by decide +kernel
theorem dX4_shareBits_9 : decode cX4_shareBits 9 = .ok (.invokestatic 190, 3) := by decide +kernel
theorem dX4_shareBits_12 : decode cX4_shareBits 12 = .ok (.isub, 1) := by decide +kernel
theorem dX4_shareBits_13 : decode cX4_shareBits 13 = .ok (.istore_n 1, 1) := by decide +kernel
theorem dX4_shareBits_14 : decode cX4_shareBits 14 = .ok (.bipush 117, 2) := by decide +kernel
theorem dX4_shareBits_16 : decode cX4_shareBits 16 = .ok (.iload_n 1, 1) := by decide +kernel
theorem dX4_shareBits_17 : decode cX4_shareBits 17 = .ok (.iadd, 1) := by decide +kernel
theorem dX4_shareBits_18 : decode cX4_shareBits 18 = .ok (.istore_n 2, 1) := by decide +kernel
theorem dX4_shareBits_19 : decode cX4_shareBits 19 = .ok (.iload_n 0, 1) := by decide +kernel
theorem dX4_shareBits_20 : decode cX4_shareBits 20 = .ok (.bipush 23, 2) := by decide +kernel
theorem dX4_shareBits_22 : decode cX4_shareBits 22 = .ok (.iload_n 1, 1) := by decide +kernel
theorem dX4_shareBits_23 : decode cX4_shareBits 23 = .ok (.isub, 1) := by decide +kernel
theorem dX4_shareBits_24 : decode cX4_shareBits 24 = .ok (.ishl, 1) := by decide +kernel
theorem dX4_shareBits_25 : decode cX4_shareBits 25 = .ok (.ldc 193, 2) := by decide +kernel
theorem dX4_shareBits_27 : decode cX4_shareBits 27 = .ok (.iand, 1) := by decide +kernel
theorem dX4_shareBits_28 : decode cX4_shareBits 28 = .ok (.istore_n 3, 1) := by decide +kernel
theorem dX4_shareBits_29 : decode cX4_shareBits 29 = .ok (.iload_n 2, 1) := by decide +kernel
theorem dX4_shareBits_30 : decode cX4_shareBits 30 = .ok (.bipush 23, 2) := by decide +kernel
theorem dX4_shareBits_32 : decode cX4_shareBits 32 = .ok (.ishl, 1) := by decide +kernel
theorem dX4_shareBits_33 : decode cX4_shareBits 33 = .ok (.iload_n 3, 1) := by decide +kernel
theorem dX4_shareBits_34 : decode cX4_shareBits 34 = .ok (.ior, 1) := by decide +kernel
theorem dX4_shareBits_35 : decode cX4_shareBits 35 = .ok (.ireturn, 1) := by decide +kernel
theorem dX4_isRedundant_0 : decode cX4_isRedundant 0 = .ok (.aload_n 0, 1) := by decide +kernel
theorem dX4_isRedundant_1 : decode cX4_isRedundant 1 = .ok (.iload_n 1, 1) := by decide +kernel
theorem dX4_isRedundant_2 : decode cX4_isRedundant 2 = .ok (.iload_n 2, 1) := by decide +kernel
theorem dX4_isRedundant_3 : decode cX4_isRedundant 3 = .ok (.invokevirtual 102, 3) := by decide +kernel
theorem dX4_isRedundant_6 : decode cX4_isRedundant 6 = .ok (.ifCond .ne 5, 3) := by decide +kernel
theorem dX4_isRedundant_9 : decode cX4_isRedundant 9 = .ok (.iconst (-1), 1) := by decide +kernel
theorem dX4_isRedundant_10 : decode cX4_isRedundant 10 = .ok (.ireturn, 1) := by decide +kernel
theorem dX4_isRedundant_11 : decode cX4_isRedundant 11 = .ok (.aload_n 0, 1) := by decide +kernel
theorem dX4_isRedundant_12 : decode cX4_isRedundant 12 = .ok (.iload_n 1, 1) := by decide +kernel
theorem dX4_isRedundant_13 : decode cX4_isRedundant 13 = .ok (.invokevirtual 90, 3) := by decide +kernel
theorem dX4_isRedundant_16 : decode cX4_isRedundant 16 = .ok (.iload_n 2, 1) := by decide +kernel
theorem dX4_isRedundant_17 : decode cX4_isRedundant 17 = .ok (.invokestatic 194, 3) := by decide +kernel
theorem dX4_isRedundant_20 : decode cX4_isRedundant 20 = .ok (.bipush (-4), 2) := by decide +kernel
theorem dX4_isRedundant_22 : decode cX4_isRedundant 22 = .ok (.if_icmp .ne 7, 3) := by decide +kernel
theorem dX4_isRedundant_25 : decode cX4_isRedundant 25 = .ok (.iconst 1, 1) := by decide +kernel
theorem dX4_isRedundant_26 : decode cX4_isRedundant 26 = .ok (.goto 4, 3) := by decide +kernel
theorem dX4_isRedundant_29 : decode cX4_isRedundant 29 = .ok (.iconst 0, 1) := by decide +kernel
theorem dX4_isRedundant_30 : decode cX4_isRedundant 30 = .ok (.ireturn, 1) := by decide +kernel
theorem dX4_witness_0 : decode cX4_witness 0 = .ok (.aload_n 0, 1) := by decide +kernel
theorem dX4_witness_1 : decode cX4_witness 1 = .ok (.iload_n 1, 1) := by decide +kernel
theorem dX4_witness_2 : decode cX4_witness 2 = .ok (.iload_n 2, 1) := by decide +kernel
theorem dX4_witness_3 : decode cX4_witness 3 = .ok (.invokevirtual 102, 3) := by decide +kernel
theorem dX4_witness_6 : decode cX4_witness 6 = .ok (.ifCond .eq 15, 3) := by decide +kernel
theorem dX4_witness_9 : decode cX4_witness 9 = .ok (.aload_n 0, 1) := by decide +kernel
theorem dX4_witness_10 : decode cX4_witness 10 = .ok (.iload_n 1, 1) := by decide +kernel
theorem dX4_witness_11 : decode cX4_witness 11 = .ok (.invokevirtual 90, 3) := by decide +kernel
theorem dX4_witness_14 : decode cX4_witness 14 = .ok (.iload_n 2, 1) := by decide +kernel
theorem dX4_witness_15 : decode cX4_witness 15 = .ok (.invokestatic 194, 3) := by decide +kernel
theorem dX4_witness_18 : decode cX4_witness 18 = .ok (.goto 4, 3) := by decide +kernel
theorem dX4_witness_21 : decode cX4_witness 21 = .ok (.iconst (-1), 1) := by decide +kernel
theorem dX4_witness_22 : decode cX4_witness 22 = .ok (.ireturn, 1) := by decide +kernel
theorem dX4_irredundantCore_0 : decode cX4_irredundantCore 0 = .ok (.iload_n 1, 1) := by decide +kernel
theorem dX4_irredundantCore_1 : decode cX4_irredundantCore 1 = .ok (.invokestatic 83, 3) := by decide +kernel
theorem dX4_irredundantCore_4 : decode cX4_irredundantCore 4 = .ok (.ifCond .ne 5, 3) := by decide +kernel
theorem dX4_irredundantCore_7 : decode cX4_irredundantCore 7 = .ok (.iconst (-1), 1) := by decide +kernel
theorem dX4_irredundantCore_8 : decode cX4_irredundantCore 8 = .ok (.ireturn, 1) := by decide +kernel
theorem dX4_irredundantCore_9 : decode cX4_irredundantCore 9 = .ok (.aload_n 0, 1) := by decide +kernel
theorem dX4_irredundantCore_10 : decode cX4_irredundantCore 10 = .ok (.iload_n 1, 1) := by decide +kernel
theorem dX4_irredundantCore_11 : decode cX4_irredundantCore 11 = .ok (.invokevirtual 90, 3) := by decide +kernel
theorem dX4_irredundantCore_14 : decode cX4_irredundantCore 14 = .ok (.astore_n 2, 1) := by decide +kernel
theorem dX4_irredundantCore_15 : decode cX4_irredundantCore 15 = .ok (.aload_n 0, 1) := by decide +kernel
theorem dX4_irredundantCore_16 : decode cX4_irredundantCore 16 = .ok (.getfield 36, 3) := by decide +kernel
theorem dX4_irredundantCore_19 : decode cX4_irredundantCore 19 = .ok (.invokevirtual 197, 3) := by decide +kernel
theorem dX4_irredundantCore_22 : decode cX4_irredundantCore 22 = .ok (.iconst 0, 1) := by decide +kernel
theorem dX4_irredundantCore_23 : decode cX4_irredundantCore 23 = .ok (.istore_n 3, 1) := by decide +kernel
theorem dX4_irredundantCore_24 : decode cX4_irredundantCore 24 = .ok (.iload_n 3, 1) := by decide +kernel
theorem dX4_irredundantCore_25 : decode cX4_irredundantCore 25 = .ok (.sipush 1024, 3) := by decide +kernel
theorem dX4_irredundantCore_28 : decode cX4_irredundantCore 28 = .ok (.if_icmp .ge 21, 3) := by decide +kernel
theorem dX4_irredundantCore_31 : decode cX4_irredundantCore 31 = .ok (.aload_n 0, 1) := by decide +kernel
theorem dX4_irredundantCore_32 : decode cX4_irredundantCore 32 = .ok (.getfield 36, 3) := by decide +kernel
theorem dX4_irredundantCore_35 : decode cX4_irredundantCore 35 = .ok (.aload_n 2, 1) := by decide +kernel
theorem dX4_irredundantCore_36 : decode cX4_irredundantCore 36 = .ok (.iload_n 3, 1) := by decide +kernel
theorem dX4_irredundantCore_37 : decode cX4_irredundantCore 37 = .ok (.invokevirtual 160, 3) := by decide +kernel
theorem dX4_irredundantCore_40 : decode cX4_irredundantCore 40 = .ok (.invokevirtual 198, 3) := by decide +kernel
theorem dX4_irredundantCore_43 : decode cX4_irredundantCore 43 = .ok (.iinc 3 1, 3) := by decide +kernel
theorem dX4_irredundantCore_46 : decode cX4_irredundantCore 46 = .ok (.goto (-22), 3) := by decide +kernel
theorem dX4_irredundantCore_49 : decode cX4_irredundantCore 49 = .ok (.aload_n 2, 1) := by decide +kernel
theorem dX4_irredundantCore_50 : decode cX4_irredundantCore 50 = .ok (.invokevirtual 200, 3) := by decide +kernel
theorem dX4_irredundantCore_53 : decode cX4_irredundantCore 53 = .ok (.istore_n 3, 1) := by decide +kernel
theorem dX4_irredundantCore_54 : decode cX4_irredundantCore 54 = .ok (.aload_n 0, 1) := by decide +kernel
theorem dX4_irredundantCore_55 : decode cX4_irredundantCore 55 = .ok (.aload_n 2, 1) := by decide +kernel
theorem dX4_irredundantCore_56 : decode cX4_irredundantCore 56 = .ok (.iload_n 3, 1) := by decide +kernel
theorem dX4_irredundantCore_57 : decode cX4_irredundantCore 57 = .ok (.invokevirtual 203, 3) := by decide +kernel
theorem dX4_irredundantCore_60 : decode cX4_irredundantCore 60 = .ok (.istore 4, 2) := by decide +kernel
theorem dX4_irredundantCore_62 : decode cX4_irredundantCore 62 = .ok (.iconst 0, 1) := by decide +kernel
theorem dX4_irredundantCore_63 : decode cX4_irredundantCore 63 = .ok (.istore 5, 2) := by decide +kernel
theorem dX4_irredundantCore_65 : decode cX4_irredundantCore 65 = .ok (.iload 5, 2) := by decide +kernel
theorem dX4_irredundantCore_67 : decode cX4_irredundantCore 67 = .ok (.bipush 8, 2) := by decide +kernel
theorem dX4_irredundantCore_69 : decode cX4_irredundantCore 69 = .ok (.if_icmp .ge 29, 3) := by decide +kernel
theorem dX4_irredundantCore_72 : decode cX4_irredundantCore 72 = .ok (.iload 4, 2) := by decide +kernel
theorem dX4_irredundantCore_74 : decode cX4_irredundantCore 74 = .ok (.ifCond .eq 24, 3) := by decide +kernel
theorem dX4_irredundantCore_77 : decode cX4_irredundantCore 77 = .ok (.iload_n 3, 1) := by decide +kernel
theorem dX4_irredundantCore_78 : decode cX4_irredundantCore 78 = .ok (.iload 4, 2) := by decide +kernel
theorem dX4_irredundantCore_80 : decode cX4_irredundantCore 80 = .ok (.iconst (-1), 1) := by decide +kernel
theorem dX4_irredundantCore_81 : decode cX4_irredundantCore 81 = .ok (.ixor, 1) := by decide +kernel
theorem dX4_irredundantCore_82 : decode cX4_irredundantCore 82 = .ok (.iand, 1) := by decide +kernel
theorem dX4_irredundantCore_83 : decode cX4_irredundantCore 83 = .ok (.istore_n 3, 1) := by decide +kernel
theorem dX4_irredundantCore_84 : decode cX4_irredundantCore 84 = .ok (.aload_n 0, 1) := by decide +kernel
theorem dX4_irredundantCore_85 : decode cX4_irredundantCore 85 = .ok (.aload_n 2, 1) := by decide +kernel
theorem dX4_irredundantCore_86 : decode cX4_irredundantCore 86 = .ok (.iload_n 3, 1) := by decide +kernel
theorem dX4_irredundantCore_87 : decode cX4_irredundantCore 87 = .ok (.invokevirtual 203, 3) := by decide +kernel
theorem dX4_irredundantCore_90 : decode cX4_irredundantCore 90 = .ok (.istore 4, 2) := by decide +kernel
theorem dX4_irredundantCore_92 : decode cX4_irredundantCore 92 = .ok (.iinc 5 1, 3) := by decide +kernel
theorem dX4_irredundantCore_95 : decode cX4_irredundantCore 95 = .ok (.goto (-30), 3) := by decide +kernel
theorem dX4_irredundantCore_98 : decode cX4_irredundantCore 98 = .ok (.iload_n 3, 1) := by decide +kernel
theorem dX4_irredundantCore_99 : decode cX4_irredundantCore 99 = .ok (.ireturn, 1) := by decide +kernel
theorem dX4_leastRemoval_0 : decode cX4_leastRemoval 0 = .ok (.aload_n 0, 1) := by decide +kernel
theorem dX4_leastRemoval_1 : decode cX4_leastRemoval 1 = .ok (.getfield 36, 3) := by decide +kernel
theorem dX4_leastRemoval_4 : decode cX4_leastRemoval 4 = .ok (.invokevirtual 197, 3) := by decide +kernel
theorem dX4_leastRemoval_7 : decode cX4_leastRemoval 7 = .ok (.iconst 0, 1) := by decide +kernel
theorem dX4_leastRemoval_8 : decode cX4_leastRemoval 8 = .ok (.istore_n 1, 1) := by decide +kernel
theorem dX4_leastRemoval_9 : decode cX4_leastRemoval 9 = .ok (.iload_n 1, 1) := by decide +kernel
theorem dX4_leastRemoval_10 : decode cX4_leastRemoval 10 = .ok (.sipush 1024, 3) := by decide +kernel
theorem dX4_leastRemoval_13 : decode cX4_leastRemoval 13 = .ok (.if_icmp .ge 35, 3) := by decide +kernel
theorem dX4_leastRemoval_16 : decode cX4_leastRemoval 16 = .ok (.aload_n 0, 1) := by decide +kernel
theorem dX4_leastRemoval_17 : decode cX4_leastRemoval 17 = .ok (.getfield 10, 3) := by decide +kernel
theorem dX4_leastRemoval_20 : decode cX4_leastRemoval 20 = .ok (.iload_n 1, 1) := by decide +kernel
theorem dX4_leastRemoval_21 : decode cX4_leastRemoval 21 = .ok (.invokevirtual 150, 3) := by decide +kernel
theorem dX4_leastRemoval_24 : decode cX4_leastRemoval 24 = .ok (.ifCond .eq 18, 3) := by decide +kernel
theorem dX4_leastRemoval_27 : decode cX4_leastRemoval 27 = .ok (.aload_n 0, 1) := by decide +kernel
theorem dX4_leastRemoval_28 : decode cX4_leastRemoval 28 = .ok (.getfield 36, 3) := by decide +kernel
theorem dX4_leastRemoval_31 : decode cX4_leastRemoval 31 = .ok (.aload_n 0, 1) := by decide +kernel
theorem dX4_leastRemoval_32 : decode cX4_leastRemoval 32 = .ok (.getfield 16, 3) := by decide +kernel
theorem dX4_leastRemoval_35 : decode cX4_leastRemoval 35 = .ok (.iload_n 1, 1) := by decide +kernel
theorem dX4_leastRemoval_36 : decode cX4_leastRemoval 36 = .ok (.invokevirtual 160, 3) := by decide +kernel
theorem dX4_leastRemoval_39 : decode cX4_leastRemoval 39 = .ok (.invokevirtual 198, 3) := by decide +kernel
theorem dX4_leastRemoval_42 : decode cX4_leastRemoval 42 = .ok (.iinc 1 1, 3) := by decide +kernel
theorem dX4_leastRemoval_45 : decode cX4_leastRemoval 45 = .ok (.goto (-36), 3) := by decide +kernel
theorem dX4_leastRemoval_48 : decode cX4_leastRemoval 48 = .ok (.aload_n 0, 1) := by decide +kernel
theorem dX4_leastRemoval_49 : decode cX4_leastRemoval 49 = .ok (.getfield 16, 3) := by decide +kernel
theorem dX4_leastRemoval_52 : decode cX4_leastRemoval 52 = .ok (.invokevirtual 200, 3) := by decide +kernel
theorem dX4_leastRemoval_55 : decode cX4_leastRemoval 55 = .ok (.istore_n 1, 1) := by decide +kernel
theorem dX4_leastRemoval_56 : decode cX4_leastRemoval 56 = .ok (.bipush (-4), 2) := by decide +kernel
theorem dX4_leastRemoval_58 : decode cX4_leastRemoval 58 = .ok (.istore_n 2, 1) := by decide +kernel
theorem dX4_leastRemoval_59 : decode cX4_leastRemoval 59 = .ok (.bipush 9, 2) := by decide +kernel
theorem dX4_leastRemoval_61 : decode cX4_leastRemoval 61 = .ok (.istore_n 3, 1) := by decide +kernel
theorem dX4_leastRemoval_62 : decode cX4_leastRemoval 62 = .ok (.iconst 0, 1) := by decide +kernel
theorem dX4_leastRemoval_63 : decode cX4_leastRemoval 63 = .ok (.istore 4, 2) := by decide +kernel
theorem dX4_leastRemoval_65 : decode cX4_leastRemoval 65 = .ok (.iload 4, 2) := by decide +kernel
theorem dX4_leastRemoval_67 : decode cX4_leastRemoval 67 = .ok (.iload_n 1, 1) := by decide +kernel
theorem dX4_leastRemoval_68 : decode cX4_leastRemoval 68 = .ok (.if_icmp .gt 47, 3) := by decide +kernel
theorem dX4_leastRemoval_71 : decode cX4_leastRemoval 71 = .ok (.iload 4, 2) := by decide +kernel
theorem dX4_leastRemoval_73 : decode cX4_leastRemoval 73 = .ok (.invokestatic 163, 3) := by decide +kernel
theorem dX4_leastRemoval_76 : decode cX4_leastRemoval 76 = .ok (.iload_n 3, 1) := by decide +kernel
theorem dX4_leastRemoval_77 : decode cX4_leastRemoval 77 = .ok (.if_icmp .ge 32, 3) := by decide +kernel
theorem dX4_leastRemoval_80 : decode cX4_leastRemoval 80 = .ok (.aload_n 0, 1) := by decide +kernel
theorem dX4_leastRemoval_81 : decode cX4_leastRemoval 81 = .ok (.getfield 36, 3) := by decide +kernel
theorem dX4_leastRemoval_84 : decode cX4_leastRemoval 84 = .ok (.aload_n 0, 1) := by decide +kernel
theorem dX4_leastRemoval_85 : decode cX4_leastRemoval 85 = .ok (.getfield 16, 3) := by decide +kernel
theorem dX4_leastRemoval_88 : decode cX4_leastRemoval 88 = .ok (.iload_n 1, 1) := by decide +kernel
theorem dX4_leastRemoval_89 : decode cX4_leastRemoval 89 = .ok (.iload 4, 2) := by decide +kernel
theorem dX4_leastRemoval_91 : decode cX4_leastRemoval 91 = .ok (.iconst (-1), 1) := by decide +kernel
theorem dX4_leastRemoval_92 : decode cX4_leastRemoval 92 = .ok (.ixor, 1) := by decide +kernel
theorem dX4_leastRemoval_93 : decode cX4_leastRemoval 93 = .ok (.iand, 1) := by decide +kernel
theorem dX4_leastRemoval_94 : decode cX4_leastRemoval 94 = .ok (.invokevirtual 206, 3) := by decide +kernel
theorem dX4_leastRemoval_97 : decode cX4_leastRemoval 97 = .ok (.ifCond .ne 12, 3) := by decide +kernel
theorem dX4_leastRemoval_100 : decode cX4_leastRemoval 100 = .ok (.iload 4, 2) := by decide +kernel
theorem dX4_leastRemoval_102 : decode cX4_leastRemoval 102 = .ok (.istore_n 2, 1) := by decide +kernel
theorem dX4_leastRemoval_103 : decode cX4_leastRemoval 103 = .ok (.iload 4, 2) := by decide +kernel
theorem dX4_leastRemoval_105 : decode cX4_leastRemoval 105 = .ok (.invokestatic 163, 3) := by decide +kernel
theorem dX4_leastRemoval_108 : decode cX4_leastRemoval 108 = .ok (.istore_n 3, 1) := by decide +kernel
theorem dX4_leastRemoval_109 : decode cX4_leastRemoval 109 = .ok (.iinc 4 1, 3) := by decide +kernel
theorem dX4_leastRemoval_112 : decode cX4_leastRemoval 112 = .ok (.goto (-47), 3) := by decide +kernel
theorem dX4_leastRemoval_115 : decode cX4_leastRemoval 115 = .ok (.iload_n 2, 1) := by decide +kernel
theorem dX4_leastRemoval_116 : decode cX4_leastRemoval 116 = .ok (.ireturn, 1) := by decide +kernel
theorem dX4_firstChangeWithout_0 : decode cX4_firstChangeWithout 0 = .ok (.iconst 1, 1) := by decide +kernel
theorem dX4_firstChangeWithout_1 : decode cX4_firstChangeWithout 1 = .ok (.iload_n 1, 1) := by decide +kernel
theorem dX4_firstChangeWithout_2 : decode cX4_firstChangeWithout 2 = .ok (.ishl, 1) := by decide +kernel
theorem dX4_firstChangeWithout_3 : decode cX4_firstChangeWithout 3 = .ok (.iconst (-1), 1) := by decide +kernel
theorem dX4_firstChangeWithout_4 : decode cX4_firstChangeWithout 4 = .ok (.ixor, 1) := by decide +kernel
theorem dX4_firstChangeWithout_5 : decode cX4_firstChangeWithout 5 = .ok (.istore_n 2, 1) := by decide +kernel
theorem dX4_firstChangeWithout_6 : decode cX4_firstChangeWithout 6 = .ok (.iconst 0, 1) := by decide +kernel
theorem dX4_firstChangeWithout_7 : decode cX4_firstChangeWithout 7 = .ok (.istore_n 3, 1) := by decide +kernel
theorem dX4_firstChangeWithout_8 : decode cX4_firstChangeWithout 8 = .ok (.iload_n 3, 1) := by decide +kernel
theorem dX4_firstChangeWithout_9 : decode cX4_firstChangeWithout 9 = .ok (.sipush 1024, 3) := by decide +kernel
theorem dX4_firstChangeWithout_12 : decode cX4_firstChangeWithout 12 = .ok (.if_icmp .ge 35, 3) := by decide +kernel
theorem dX4_firstChangeWithout_15 : decode cX4_firstChangeWithout 15 = .ok (.aload_n 0, 1) := by decide +kernel
theorem dX4_firstChangeWithout_16 : decode cX4_firstChangeWithout 16 = .ok (.iload_n 3, 1) := by decide +kernel
theorem dX4_firstChangeWithout_17 : decode cX4_firstChangeWithout 17 = .ok (.invokevirtual 160, 3) := by decide +kernel
theorem dX4_firstChangeWithout_20 : decode cX4_firstChangeWithout 20 = .ok (.istore 4, 2) := by decide +kernel
theorem dX4_firstChangeWithout_22 : decode cX4_firstChangeWithout 22 = .ok (.aload_n 0, 1) := by decide +kernel
theorem dX4_firstChangeWithout_23 : decode cX4_firstChangeWithout 23 = .ok (.iload 4, 2) := by decide +kernel
theorem dX4_firstChangeWithout_25 : decode cX4_firstChangeWithout 25 = .ok (.invokevirtual 210, 3) := by decide +kernel
theorem dX4_firstChangeWithout_28 : decode cX4_firstChangeWithout 28 = .ok (.aload_n 0, 1) := by decide +kernel
theorem dX4_firstChangeWithout_29 : decode cX4_firstChangeWithout 29 = .ok (.iload 4, 2) := by decide +kernel
theorem dX4_firstChangeWithout_31 : decode cX4_firstChangeWithout 31 = .ok (.iload_n 2, 1) := by decide +kernel
theorem dX4_firstChangeWithout_32 : decode cX4_firstChangeWithout 32 = .ok (.iand, 1) := by decide +kernel
theorem dX4_firstChangeWithout_33 : decode cX4_firstChangeWithout 33 = .ok (.invokevirtual 210, 3) := by decide +kernel
theorem dX4_firstChangeWithout_36 : decode cX4_firstChangeWithout 36 = .ok (.if_icmp .eq 5, 3) := by decide +kernel
theorem dX4_firstChangeWithout_39 : decode cX4_firstChangeWithout 39 = .ok (.iload_n 3, 1) := by decide +kernel
theorem dX4_firstChangeWithout_40 : decode cX4_firstChangeWithout 40 = .ok (.ireturn, 1) := by decide +kernel
theorem dX4_firstChangeWithout_41 : decode cX4_firstChangeWithout 41 = .ok (.iinc 3 1, 3) := by decide +kernel
theorem dX4_firstChangeWithout_44 : decode cX4_firstChangeWithout 44 = .ok (.goto (-36), 3) := by decide +kernel
theorem dX4_firstChangeWithout_47 : decode cX4_firstChangeWithout 47 = .ok (.bipush (-4), 2) := by decide +kernel
theorem dX4_firstChangeWithout_49 : decode cX4_firstChangeWithout 49 = .ok (.ireturn, 1) := by decide +kernel
theorem dX4_lowestRedundant_0 : decode cX4_lowestRedundant 0 = .ok (.iconst 0, 1) := by decide +kernel
theorem dX4_lowestRedundant_1 : decode cX4_lowestRedundant 1 = .ok (.istore_n 3, 1) := by decide +kernel
theorem dX4_lowestRedundant_2 : decode cX4_lowestRedundant 2 = .ok (.iload_n 3, 1) := by decide +kernel
theorem dX4_lowestRedundant_3 : decode cX4_lowestRedundant 3 = .ok (.bipush 8, 2) := by decide +kernel
theorem dX4_lowestRedundant_5 : decode cX4_lowestRedundant 5 = .ok (.if_icmp .ge 42, 3) := by decide +kernel
theorem dX4_lowestRedundant_8 : decode cX4_lowestRedundant 8 = .ok (.iconst 1, 1) := by decide +kernel
theorem dX4_lowestRedundant_9 : decode cX4_lowestRedundant 9 = .ok (.iload_n 3, 1) := by decide +kernel
theorem dX4_lowestRedundant_10 : decode cX4_lowestRedundant 10 = .ok (.ishl, 1) := by decide +kernel
theorem dX4_lowestRedundant_11 : decode cX4_lowestRedundant 11 = .ok (.istore 4, 2) := by decide +kernel
theorem dX4_lowestRedundant_13 : decode cX4_lowestRedundant 13 = .ok (.iload_n 2, 1) := by decide +kernel
theorem dX4_lowestRedundant_14 : decode cX4_lowestRedundant 14 = .ok (.iload 4, 2) := by decide +kernel
theorem dX4_lowestRedundant_16 : decode cX4_lowestRedundant 16 = .ok (.iand, 1) := by decide +kernel
theorem dX4_lowestRedundant_17 : decode cX4_lowestRedundant 17 = .ok (.ifCond .eq 24, 3) := by decide +kernel
theorem dX4_lowestRedundant_20 : decode cX4_lowestRedundant 20 = .ok (.aload_n 0, 1) := by decide +kernel
theorem dX4_lowestRedundant_21 : decode cX4_lowestRedundant 21 = .ok (.getfield 36, 3) := by decide +kernel
theorem dX4_lowestRedundant_24 : decode cX4_lowestRedundant 24 = .ok (.aload_n 1, 1) := by decide +kernel
theorem dX4_lowestRedundant_25 : decode cX4_lowestRedundant 25 = .ok (.iload_n 2, 1) := by decide +kernel
theorem dX4_lowestRedundant_26 : decode cX4_lowestRedundant 26 = .ok (.iload_n 2, 1) := by decide +kernel
theorem dX4_lowestRedundant_27 : decode cX4_lowestRedundant 27 = .ok (.iload 4, 2) := by decide +kernel
theorem dX4_lowestRedundant_29 : decode cX4_lowestRedundant 29 = .ok (.iconst (-1), 1) := by decide +kernel
theorem dX4_lowestRedundant_30 : decode cX4_lowestRedundant 30 = .ok (.ixor, 1) := by decide +kernel
theorem dX4_lowestRedundant_31 : decode cX4_lowestRedundant 31 = .ok (.iand, 1) := by decide +kernel
theorem dX4_lowestRedundant_32 : decode cX4_lowestRedundant 32 = .ok (.invokevirtual 213, 3) := by decide +kernel
theorem dX4_lowestRedundant_35 : decode cX4_lowestRedundant 35 = .ok (.ifCond .eq 6, 3) := by decide +kernel
theorem dX4_lowestRedundant_38 : decode cX4_lowestRedundant 38 = .ok (.iload 4, 2) := by decide +kernel
theorem dX4_lowestRedundant_40 : decode cX4_lowestRedundant 40 = .ok (.ireturn, 1) := by decide +kernel
theorem dX4_lowestRedundant_41 : decode cX4_lowestRedundant 41 = .ok (.iinc 3 1, 3) := by decide +kernel
theorem dX4_lowestRedundant_44 : decode cX4_lowestRedundant 44 = .ok (.goto (-42), 3) := by decide +kernel
theorem dX4_lowestRedundant_47 : decode cX4_lowestRedundant 47 = .ok (.iconst 0, 1) := by decide +kernel
theorem dX4_lowestRedundant_48 : decode cX4_lowestRedundant 48 = .ok (.ireturn, 1) := by decide +kernel
theorem dX4_historySize_0 : decode cX4_historySize 0 = .ok (.aload_n 0, 1) := by decide +kernel
theorem dX4_historySize_1 : decode cX4_historySize 1 = .ok (.getfield 29, 3) := by decide +kernel
theorem dX4_historySize_4 : decode cX4_historySize 4 = .ok (.invokevirtual 140, 3) := by decide +kernel
theorem dX4_historySize_7 : decode cX4_historySize 7 = .ok (.ireturn, 1) := by decide +kernel
theorem dX4_isPolicy_0 : decode cX4_isPolicy 0 = .ok (.iload_n 0, 1) := by decide +kernel
theorem dX4_isPolicy_1 : decode cX4_isPolicy 1 = .ok (.ifCond .eq 8, 3) := by decide +kernel
theorem dX4_isPolicy_4 : decode cX4_isPolicy 4 = .ok (.iload_n 0, 1) := by decide +kernel
theorem dX4_isPolicy_5 : decode cX4_isPolicy 5 = .ok (.iconst 1, 1) := by decide +kernel
theorem dX4_isPolicy_6 : decode cX4_isPolicy 6 = .ok (.if_icmp .ne 7, 3) := by decide +kernel
theorem dX4_isPolicy_9 : decode cX4_isPolicy 9 = .ok (.iconst 1, 1) := by decide +kernel
theorem dX4_isPolicy_10 : decode cX4_isPolicy 10 = .ok (.goto 4, 3) := by decide +kernel
theorem dX4_isPolicy_13 : decode cX4_isPolicy 13 = .ok (.iconst 0, 1) := by decide +kernel
theorem dX4_isPolicy_14 : decode cX4_isPolicy 14 = .ok (.ireturn, 1) := by decide +kernel
theorem dX4_isEffect_0 : decode cX4_isEffect 0 = .ok (.iload_n 0, 1) := by decide +kernel
theorem dX4_isEffect_1 : decode cX4_isEffect 1 = .ok (.ifCond .eq 8, 3) := by decide +kernel
theorem dX4_isEffect_4 : decode cX4_isEffect 4 = .ok (.iload_n 0, 1) := by decide +kernel
theorem dX4_isEffect_5 : decode cX4_isEffect 5 = .ok (.iconst 1, 1) := by decide +kernel
theorem dX4_isEffect_6 : decode cX4_isEffect 6 = .ok (.if_icmp .ne 7, 3) := by decide +kernel
theorem dX4_isEffect_9 : decode cX4_isEffect 9 = .ok (.iconst 1, 1) := by decide +kernel
theorem dX4_isEffect_10 : decode cX4_isEffect 10 = .ok (.goto 4, 3) := by decide +kernel
theorem dX4_isEffect_13 : decode cX4_isEffect 13 = .ok (.iconst 0, 1) := by decide +kernel
theorem dX4_isEffect_14 : decode cX4_isEffect 14 = .ok (.ireturn, 1) := by decide +kernel
theorem dX4_isAttribute_0 : decode cX4_isAttribute 0 = .ok (.iload_n 0, 1) := by decide +kernel
theorem dX4_isAttribute_1 : decode cX4_isAttribute 1 = .ok (.ifCond .lt 12, 3) := by decide +kernel
theorem dX4_isAttribute_4 : decode cX4_isAttribute 4 = .ok (.iload_n 0, 1) := by decide +kernel
theorem dX4_isAttribute_5 : decode cX4_isAttribute 5 = .ok (.iconst 4, 1) := by decide +kernel
theorem dX4_isAttribute_6 : decode cX4_isAttribute 6 = .ok (.if_icmp .ge 7, 3) := by decide +kernel
theorem dX4_isAttribute_9 : decode cX4_isAttribute 9 = .ok (.iconst 1, 1) := by decide +kernel
theorem dX4_isAttribute_10 : decode cX4_isAttribute 10 = .ok (.goto 4, 3) := by decide +kernel
theorem dX4_isAttribute_13 : decode cX4_isAttribute 13 = .ok (.iconst 0, 1) := by decide +kernel
theorem dX4_isAttribute_14 : decode cX4_isAttribute 14 = .ok (.ireturn, 1) := by decide +kernel
theorem dX4_isRequest_0 : decode cX4_isRequest 0 = .ok (.iload_n 0, 1) := by decide +kernel
theorem dX4_isRequest_1 : decode cX4_isRequest 1 = .ok (.ifCond .lt 14, 3) := by decide +kernel
theorem dX4_isRequest_4 : decode cX4_isRequest 4 = .ok (.iload_n 0, 1) := by decide +kernel
theorem dX4_isRequest_5 : decode cX4_isRequest 5 = .ok (.sipush 1024, 3) := by decide +kernel
theorem dX4_isRequest_8 : decode cX4_isRequest 8 = .ok (.if_icmp .ge 7, 3) := by decide +kernel
theorem dX4_isRequest_11 : decode cX4_isRequest 11 = .ok (.iconst 1, 1) := by decide +kernel
theorem dX4_isRequest_12 : decode cX4_isRequest 12 = .ok (.goto 4, 3) := by decide +kernel
theorem dX4_isRequest_15 : decode cX4_isRequest 15 = .ok (.iconst 0, 1) := by decide +kernel
theorem dX4_isRequest_16 : decode cX4_isRequest 16 = .ok (.ireturn, 1) := by decide +kernel
theorem dX4_isDecision_0 : decode cX4_isDecision 0 = .ok (.iload_n 0, 1) := by decide +kernel
theorem dX4_isDecision_1 : decode cX4_isDecision 1 = .ok (.ifCond .lt 12, 3) := by decide +kernel
theorem dX4_isDecision_4 : decode cX4_isDecision 4 = .ok (.iload_n 0, 1) := by decide +kernel
theorem dX4_isDecision_5 : decode cX4_isDecision 5 = .ok (.iconst 3, 1) := by decide +kernel
theorem dX4_isDecision_6 : decode cX4_isDecision 6 = .ok (.if_icmp .gt 7, 3) := by decide +kernel
theorem dX4_isDecision_9 : decode cX4_isDecision 9 = .ok (.iconst 1, 1) := by decide +kernel
theorem dX4_isDecision_10 : decode cX4_isDecision 10 = .ok (.goto 4, 3) := by decide +kernel
theorem dX4_isDecision_13 : decode cX4_isDecision 13 = .ok (.iconst 0, 1) := by decide +kernel
theorem dX4_isDecision_14 : decode cX4_isDecision 14 = .ok (.ireturn, 1) := by decide +kernel
theorem dX4_isValueSet_0 : decode cX4_isValueSet 0 = .ok (.iload_n 1, 1) := by decide +kernel
theorem dX4_isValueSet_1 : decode cX4_isValueSet 1 = .ok (.ifCond .le 18, 3) := by decide +kernel
theorem dX4_isValueSet_4 : decode cX4_isValueSet 4 = .ok (.iload_n 1, 1) := by decide +kernel
theorem dX4_isValueSet_5 : decode cX4_isValueSet 5 = .ok (.iconst 1, 1) := by decide +kernel
theorem dX4_isValueSet_6 : decode cX4_isValueSet 6 = .ok (.getstatic 172, 3) := by decide +kernel
theorem dX4_isValueSet_9 : decode cX4_isValueSet 9 = .ok (.iload_n 0, 1) := by decide +kernel
theorem dX4_isValueSet_10 : decode cX4_isValueSet 10 = .ok (.iaload, 1) := by decide +kernel
theorem dX4_isValueSet_11 : decode cX4_isValueSet 11 = .ok (.ishl, 1) := by decide +kernel
theorem dX4_isValueSet_12 : decode cX4_isValueSet 12 = .ok (.if_icmp .ge 7, 3) := by decide +kernel
theorem dX4_isValueSet_15 : decode cX4_isValueSet 15 = .ok (.iconst 1, 1) := by decide +kernel
theorem dX4_isValueSet_16 : decode cX4_isValueSet 16 = .ok (.goto 4, 3) := by decide +kernel
theorem dX4_isValueSet_19 : decode cX4_isValueSet 19 = .ok (.iconst 0, 1) := by decide +kernel
theorem dX4_isValueSet_20 : decode cX4_isValueSet 20 = .ok (.ireturn, 1) := by decide +kernel
theorem dX4_isRule_0 : decode cX4_isRule 0 = .ok (.iload_n 1, 1) := by decide +kernel
theorem dX4_isRule_1 : decode cX4_isRule 1 = .ok (.invokestatic 83, 3) := by decide +kernel
theorem dX4_isRule_4 : decode cX4_isRule 4 = .ok (.ifCond .eq 23, 3) := by decide +kernel
theorem dX4_isRule_7 : decode cX4_isRule 7 = .ok (.iload_n 2, 1) := by decide +kernel
theorem dX4_isRule_8 : decode cX4_isRule 8 = .ok (.ifCond .lt 19, 3) := by decide +kernel
theorem dX4_isRule_11 : decode cX4_isRule 11 = .ok (.iload_n 2, 1) := by decide +kernel
theorem dX4_isRule_12 : decode cX4_isRule 12 = .ok (.aload_n 0, 1) := by decide +kernel
theorem dX4_isRule_13 : decode cX4_isRule 13 = .ok (.iload_n 1, 1) := by decide +kernel
theorem dX4_isRule_14 : decode cX4_isRule 14 = .ok (.invokevirtual 90, 3) := by decide +kernel
theorem dX4_isRule_17 : decode cX4_isRule 17 = .ok (.invokevirtual 69, 3) := by decide +kernel
theorem dX4_isRule_20 : decode cX4_isRule 20 = .ok (.if_icmp .ge 7, 3) := by decide +kernel
theorem dX4_isRule_23 : decode cX4_isRule 23 = .ok (.iconst 1, 1) := by decide +kernel
theorem dX4_isRule_24 : decode cX4_isRule 24 = .ok (.goto 4, 3) := by decide +kernel
theorem dX4_isRule_27 : decode cX4_isRule 27 = .ok (.iconst 0, 1) := by decide +kernel
theorem dX4_isRule_28 : decode cX4_isRule 28 = .ok (.ireturn, 1) := by decide +kernel
theorem dX4_policyNumbered_0 : decode cX4_policyNumbered 0 = .ok (.iload_n 1, 1) := by decide +kernel
theorem dX4_policyNumbered_1 : decode cX4_policyNumbered 1 = .ok (.ifCond .ne 10, 3) := by decide +kernel
theorem dX4_policyNumbered_4 : decode cX4_policyNumbered 4 = .ok (.aload_n 0, 1) := by decide +kernel
theorem dX4_policyNumbered_5 : decode cX4_policyNumbered 5 = .ok (.getfield 10, 3) := by decide +kernel
theorem dX4_policyNumbered_8 : decode cX4_policyNumbered 8 = .ok (.goto 7, 3) := by decide +kernel
theorem dX4_policyNumbered_11 : decode cX4_policyNumbered 11 = .ok (.aload_n 0, 1) := by decide +kernel
theorem dX4_policyNumbered_12 : decode cX4_policyNumbered 12 = .ok (.getfield 16, 3) := by decide +kernel
theorem dX4_policyNumbered_15 : decode cX4_policyNumbered 15 = .ok (.areturn, 1) := by decide +kernel
theorem dX4_valueIn_0 : decode cX4_valueIn 0 = .ok (.iload_n 0, 1) := by decide +kernel
theorem dX4_valueIn_1 : decode cX4_valueIn 1 = .ok (.getstatic 217, 3) := by decide +kernel
theorem dX4_valueIn_4 : decode cX4_valueIn 4 = .ok (.iload_n 1, 1) := by decide +kernel
theorem dX4_valueIn_5 : decode cX4_valueIn 5 = .ok (.iaload, 1) := by decide +kernel
theorem dX4_valueIn_6 : decode cX4_valueIn 6 = .ok (.ishr, 1) := by decide +kernel
theorem dX4_valueIn_7 : decode cX4_valueIn 7 = .ok (.getstatic 172, 3) := by decide +kernel
theorem dX4_valueIn_10 : decode cX4_valueIn 10 = .ok (.iload_n 1, 1) := by decide +kernel
theorem dX4_valueIn_11 : decode cX4_valueIn 11 = .ok (.iaload, 1) := by decide +kernel
theorem dX4_valueIn_12 : decode cX4_valueIn 12 = .ok (.iconst 1, 1) := by decide +kernel
theorem dX4_valueIn_13 : decode cX4_valueIn 13 = .ok (.isub, 1) := by decide +kernel
theorem dX4_valueIn_14 : decode cX4_valueIn 14 = .ok (.iand, 1) := by decide +kernel
theorem dX4_valueIn_15 : decode cX4_valueIn 15 = .ok (.ireturn, 1) := by decide +kernel
theorem dX5_init_0 : decode cX5_init 0 = .ok (.aload_n 0, 1) := by decide +kernel
theorem dX5_init_1 : decode cX5_init 1 = .ok (.invokespecial 1, 3) := by decide +kernel
theorem dX5_init_4 : decode cX5_init 4 = .ok (.aload_n 0, 1) := by decide +kernel
theorem dX5_init_5 : decode cX5_init 5 = .ok (.sipush 240, 3) := by decide +kernel
theorem dX5_init_8 : decode cX5_init 8 = .ok (.newarray .int, 2) := by decide +kernel
theorem dX5_init_10 : decode cX5_init 10 = .ok (.putfield 7, 3) := by decide +kernel
theorem dX5_init_13 : decode cX5_init 13 = .ok (.aload_n 0, 1) := by decide +kernel
theorem dX5_init_14 : decode cX5_init 14 = .ok (.bipush 84, 2) := by decide +kernel
theorem dX5_init_16 : decode cX5_init 16 = .ok (.newarray .int, 2) := by decide +kernel
theorem dX5_init_18 : decode cX5_init 18 = .ok (.putfield 13, 3) := by decide +kernel
theorem dX5_init_21 : decode cX5_init 21 = .ok (.aload_n 0, 1) := by decide +kernel
theorem dX5_init_22 : decode cX5_init 22 = .ok (.bipush 84, 2) := by decide +kernel
theorem dX5_init_24 : decode cX5_init 24 = .ok (.newarray .int, 2) := by decide +kernel
theorem dX5_init_26 : decode cX5_init 26 = .ok (.putfield 16, 3) := by decide +kernel
theorem dX5_init_29 : decode cX5_init 29 = .ok (.aload_n 0, 1) := by decide +kernel
theorem dX5_init_30 : decode cX5_init 30 = .ok (.sipush 336, 3) := by decide +kernel
theorem dX5_init_33 : decode cX5_init 33 = .ok (.newarray .int, 2) := by decide +kernel
theorem dX5_init_35 : decode cX5_init 35 = .ok (.putfield 19, 3) := by decide +kernel
theorem dX5_init_38 : decode cX5_init 38 = .ok (.aload_n 0, 1) := by decide +kernel
theorem dX5_init_39 : decode cX5_init 39 = .ok (.sipush 1024, 3) := by decide +kernel
theorem dX5_init_42 : decode cX5_init 42 = .ok (.newarray .int, 2) := by decide +kernel
theorem dX5_init_44 : decode cX5_init 44 = .ok (.putfield 22, 3) := by decide +kernel
theorem dX5_init_47 : decode cX5_init 47 = .ok (.aload_n 0, 1) := by decide +kernel
theorem dX5_init_48 : decode cX5_init 48 = .ok (.sipush 1024, 3) := by decide +kernel
theorem dX5_init_51 : decode cX5_init 51 = .ok (.newarray .int, 2) := by decide +kernel
theorem dX5_init_53 : decode cX5_init 53 = .ok (.putfield 25, 3) := by decide +kernel
theorem dX5_init_56 : decode cX5_init 56 = .ok (.aload_n 0, 1) := by decide +kernel
theorem dX5_init_57 : decode cX5_init 57 = .ok (.iconst 5, 1) := by decide +kernel
theorem dX5_init_58 : decode cX5_init 58 = .ok (.newarray .int, 2) := by decide +kernel
theorem dX5_init_60 : decode cX5_init 60 = .ok (.putfield 28, 3) := by decide +kernel
theorem dX5_init_63 : decode cX5_init 63 = .ok (.aload_n 0, 1) := by decide +kernel
theorem dX5_init_64 : decode cX5_init 64 = .ok (.invokevirtual 31, 3) := by decide +kernel
theorem dX5_init_67 : decode cX5_init 67 = .ok (.aload_n 0, 1) := by decide +kernel
theorem dX5_init_68 : decode cX5_init 68 = .ok (.getfield 16, 3) := by decide +kernel
theorem dX5_init_71 : decode cX5_init 71 = .ok (.iconst 0, 1) := by decide +kernel
theorem dX5_init_72 : decode cX5_init 72 = .ok (.iconst 2, 1) := by decide +kernel
theorem dX5_init_73 : decode cX5_init 73 = .ok (.iastore, 1) := by decide +kernel
theorem dX5_init_74 : decode cX5_init 74 = .ok (.aload_n 0, 1) := by decide +kernel
theorem dX5_init_75 : decode cX5_init 75 = .ok (.getfield 16, 3) := by decide +kernel
theorem dX5_init_78 : decode cX5_init 78 = .ok (.iconst 1, 1) := by decide +kernel
theorem dX5_init_79 : decode cX5_init 79 = .ok (.iconst 1, 1) := by decide +kernel
theorem dX5_init_80 : decode cX5_init 80 = .ok (.iastore, 1) := by decide +kernel
theorem dX5_init_81 : decode cX5_init 81 = .ok (.aload_n 0, 1) := by decide +kernel
theorem dX5_init_82 : decode cX5_init 82 = .ok (.iconst 0, 1) := by decide +kernel
theorem dX5_init_83 : decode cX5_init 83 = .ok (.iconst 0, 1) := by decide +kernel
theorem dX5_init_84 : decode cX5_init 84 = .ok (.iconst 0, 1) := by decide +kernel
theorem dX5_init_85 : decode cX5_init 85 = .ok (.iconst 3, 1) := by decide +kernel
theorem dX5_init_86 : decode cX5_init 86 = .ok (.bipush 15, 2) := by decide +kernel
theorem dX5_init_88 : decode cX5_init 88 = .ok (.bipush 15, 2) := by decide +kernel
theorem dX5_init_90 : decode cX5_init 90 = .ok (.bipush 15, 2) := by decide +kernel
theorem dX5_init_92 : decode cX5_init 92 = .ok (.invokevirtual 34, 3) := by decide +kernel
theorem dX5_init_95 : decode cX5_init 95 = .ok (.aload_n 0, 1) := by decide +kernel
theorem dX5_init_96 : decode cX5_init 96 = .ok (.iconst 0, 1) := by decide +kernel
theorem dX5_init_97 : decode cX5_init 97 = .ok (.iconst 1, 1) := by decide +kernel
theorem dX5_init_98 : decode cX5_init 98 = .ok (.iconst 1, 1) := by decide +kernel
theorem dX5_init_99 : decode cX5_init 99 = .ok (.sipush 255, 3) := by decide +kernel
theorem dX5_init_102 : decode cX5_init 102 = .ok (.bipush 8, 2) := by decide +kernel
theorem dX5_init_104 : decode cX5_init 104 = .ok (.sipush 255, 3) := by decide +kernel
theorem dX5_init_107 : decode cX5_init 107 = .ok (.bipush 15, 2) := by decide +kernel
theorem dX5_init_109 : decode cX5_init 109 = .ok (.invokevirtual 34, 3) := by decide +kernel
theorem dX5_init_112 : decode cX5_init 112 = .ok (.aload_n 0, 1) := by decide +kernel
theorem dX5_init_113 : decode cX5_init 113 = .ok (.getfield 16, 3) := by decide +kernel
theorem dX5_init_116 : decode cX5_init 116 = .ok (.bipush 42, 2) := by decide +kernel
theorem dX5_init_118 : decode cX5_init 118 = .ok (.iconst 3, 1) := by decide +kernel
theorem dX5_init_119 : decode cX5_init 119 = .ok (.iastore, 1) := by decide +kernel
theorem dX5_init_120 : decode cX5_init 120 = .ok (.aload_n 0, 1) := by decide +kernel
theorem dX5_init_121 : decode cX5_init 121 = .ok (.getfield 16, 3) := by decide +kernel
theorem dX5_init_124 : decode cX5_init 124 = .ok (.bipush 43, 2) := by decide +kernel
theorem dX5_init_126 : decode cX5_init 126 = .ok (.iconst 0, 1) := by decide +kernel
theorem dX5_init_127 : decode cX5_init 127 = .ok (.iastore, 1) := by decide +kernel
theorem dX5_init_128 : decode cX5_init 128 = .ok (.aload_n 0, 1) := by decide +kernel
theorem dX5_init_129 : decode cX5_init 129 = .ok (.iconst 1, 1) := by decide +kernel
theorem dX5_init_130 : decode cX5_init 130 = .ok (.iconst 0, 1) := by decide +kernel
theorem dX5_init_131 : decode cX5_init 131 = .ok (.iconst 0, 1) := by decide +kernel
theorem dX5_init_132 : decode cX5_init 132 = .ok (.bipush 7, 2) := by decide +kernel
theorem dX5_init_134 : decode cX5_init 134 = .ok (.bipush 15, 2) := by decide +kernel
theorem dX5_init_136 : decode cX5_init 136 = .ok (.bipush 15, 2) := by decide +kernel
theorem dX5_init_138 : decode cX5_init 138 = .ok (.bipush 15, 2) := by decide +kernel
theorem dX5_init_140 : decode cX5_init 140 = .ok (.invokevirtual 34, 3) := by decide +kernel
theorem dX5_init_143 : decode cX5_init 143 = .ok (.aload_n 0, 1) := by decide +kernel
theorem dX5_init_144 : decode cX5_init 144 = .ok (.iconst 1, 1) := by decide +kernel
theorem dX5_init_145 : decode cX5_init 145 = .ok (.iconst 1, 1) := by decide +kernel
theorem dX5_init_146 : decode cX5_init 146 = .ok (.iconst 1, 1) := by decide +kernel
theorem dX5_init_147 : decode cX5_init 147 = .ok (.sipush 255, 3) := by decide +kernel
theorem dX5_init_150 : decode cX5_init 150 = .ok (.bipush 8, 2) := by decide +kernel
theorem dX5_init_152 : decode cX5_init 152 = .ok (.sipush 255, 3) := by decide +kernel
theorem dX5_init_155 : decode cX5_init 155 = .ok (.iconst 3, 1) := by decide +kernel
theorem dX5_init_156 : decode cX5_init 156 = .ok (.invokevirtual 34, 3) := by decide +kernel
theorem dX5_init_159 : decode cX5_init 159 = .ok (.aload_n 0, 1) := by decide +kernel
theorem dX5_init_160 : decode cX5_init 160 = .ok (.iconst 1, 1) := by decide +kernel
theorem dX5_init_161 : decode cX5_init 161 = .ok (.iconst 2, 1) := by decide +kernel
theorem dX5_init_162 : decode cX5_init 162 = .ok (.iconst 0, 1) := by decide +kernel
theorem dX5_init_163 : decode cX5_init 163 = .ok (.iconst 1, 1) := by decide +kernel
theorem dX5_init_164 : decode cX5_init 164 = .ok (.bipush 15, 2) := by decide +kernel
theorem dX5_init_166 : decode cX5_init 166 = .ok (.sipush 255, 3) := by decide +kernel
theorem dX5_init_169 : decode cX5_init 169 = .ok (.bipush 15, 2) := by decide +kernel
theorem dX5_init_171 : decode cX5_init 171 = .ok (.invokevirtual 34, 3) := by decide +kernel
theorem dX5_init_174 : decode cX5_init 174 = .ok (.aload_n 0, 1) := by decide +kernel
theorem dX5_init_175 : decode cX5_init 175 = .ok (.invokevirtual 38, 3) := by decide +kernel
theorem dX5_init_178 : decode cX5_init 178 = .ok (.return_, 1) := by decide +kernel
theorem dX5_sets_0 : decode cX5_sets 0 = .ok (.bipush 42, 2) := by decide +kernel
theorem dX5_sets_2 : decode cX5_sets 2 = .ok (.iload_n 1, 1) := by decide +kernel
theorem dX5_sets_3 : decode cX5_sets 3 = .ok (.imul, 1) := by decide +kernel
theorem dX5_sets_4 : decode cX5_sets 4 = .ok (.iconst 2, 1) := by decide +kernel
theorem dX5_sets_5 : decode cX5_sets 5 = .ok (.iadd, 1) := by decide +kernel
theorem dX5_sets_6 : decode cX5_sets 6 = .ok (.iconst 5, 1) := by decide +kernel
theorem dX5_sets_7 : decode cX5_sets 7 = .ok (.iload_n 2, 1) := by decide +kernel
theorem dX5_sets_8 : decode cX5_sets 8 = .ok (.imul, 1) := by decide +kernel
theorem dX5_sets_9 : decode cX5_sets 9 = .ok (.iadd, 1) := by decide +kernel
theorem dX5_sets_10 : decode cX5_sets 10 = .ok (.istore 8, 2) := by decide +kernel
theorem dX5_sets_12 : decode cX5_sets 12 = .ok (.aload_n 0, 1) := by decide +kernel
theorem dX5_sets_13 : decode cX5_sets 13 = .ok (.getfield 16, 3) := by decide +kernel
theorem dX5_sets_16 : decode cX5_sets 16 = .ok (.iload 8, 2) := by decide +kernel
theorem dX5_sets_18 : decode cX5_sets 18 = .ok (.iload_n 3, 1) := by decide +kernel
theorem dX5_sets_19 : decode cX5_sets 19 = .ok (.iastore, 1) := by decide +kernel
theorem dX5_sets_20 : decode cX5_sets 20 = .ok (.aload_n 0, 1) := by decide +kernel
theorem dX5_sets_21 : decode cX5_sets 21 = .ok (.getfield 16, 3) := by decide +kernel
theorem dX5_sets_24 : decode cX5_sets 24 = .ok (.iload 8, 2) := by decide +kernel
theorem dX5_sets_26 : decode cX5_sets 26 = .ok (.iconst 1, 1) := by decide +kernel
theorem dX5_sets_27 : decode cX5_sets 27 = .ok (.iadd, 1) := by decide +kernel
theorem dX5_sets_28 : decode cX5_sets 28 = .ok (.iload 4, 2) := by decide +kernel
theorem dX5_sets_30 : decode cX5_sets 30 = .ok (.iastore, 1) := by decide +kernel
theorem dX5_sets_31 : decode cX5_sets 31 = .ok (.aload_n 0, 1) := by decide +kernel
theorem dX5_sets_32 : decode cX5_sets 32 = .ok (.getfield 16, 3) := by decide +kernel
theorem dX5_sets_35 : decode cX5_sets 35 = .ok (.iload 8, 2) := by decide +kernel
theorem dX5_sets_37 : decode cX5_sets 37 = .ok (.iconst 2, 1) := by decide +kernel
theorem dX5_sets_38 : decode cX5_sets 38 = .ok (.iadd, 1) := by decide +kernel
theorem dX5_sets_39 : decode cX5_sets 39 = .ok (.iload 5, 2) := by decide +kernel
theorem dX5_sets_41 : decode cX5_sets 41 = .ok (.iastore, 1) := by decide +kernel
theorem dX5_sets_42 : decode cX5_sets 42 = .ok (.aload_n 0, 1) := by decide +kernel
theorem dX5_sets_43 : decode cX5_sets 43 = .ok (.getfield 16, 3) := by decide +kernel
theorem dX5_sets_46 : decode cX5_sets 46 = .ok (.iload 8, 2) := by decide +kernel
theorem dX5_sets_48 : decode cX5_sets 48 = .ok (.iconst 3, 1) := by decide +kernel
theorem dX5_sets_49 : decode cX5_sets 49 = .ok (.iadd, 1) := by decide +kernel
theorem dX5_sets_50 : decode cX5_sets 50 = .ok (.iload 6, 2) := by decide +kernel
theorem dX5_sets_52 : decode cX5_sets 52 = .ok (.iastore, 1) := by decide +kernel
theorem dX5_sets_53 : decode cX5_sets 53 = .ok (.aload_n 0, 1) := by decide +kernel
theorem dX5_sets_54 : decode cX5_sets 54 = .ok (.getfield 16, 3) := by decide +kernel
theorem dX5_sets_57 : decode cX5_sets 57 = .ok (.iload 8, 2) := by decide +kernel
theorem dX5_sets_59 : decode cX5_sets 59 = .ok (.iconst 4, 1) := by decide +kernel
theorem dX5_sets_60 : decode cX5_sets 60 = .ok (.iadd, 1) := by decide +kernel
theorem dX5_sets_61 : decode cX5_sets 61 = .ok (.iload 7, 2) := by decide +kernel
theorem dX5_sets_63 : decode cX5_sets 63 = .ok (.iastore, 1) := by decide +kernel
theorem dX5_sets_64 : decode cX5_sets 64 = .ok (.return_, 1) := by decide +kernel
theorem dX5_in_0 : decode cX5_in 0 = .ok (.iload_n 0, 1) := by decide +kernel
theorem dX5_in_1 : decode cX5_in 1 = .ok (.iload_n 1, 1) := by decide +kernel
theorem dX5_in_2 : decode cX5_in 2 = .ok (.if_icmp .lt 12, 3) := by decide +kernel
theorem dX5_in_5 : decode cX5_in 5 = .ok (.iload_n 0, 1) := by decide +kernel
theorem dX5_in_6 : decode cX5_in 6 = .ok (.iload_n 2, 1) := by decide +kernel
theorem dX5_in_7 : decode cX5_in 7 = .ok (.if_icmp .gt 7, 3) := by decide +kernel
theorem dX5_in_10 : decode cX5_in 10 = .ok (.iconst 1, 1) := by decide +kernel
theorem dX5_in_11 : decode cX5_in 11 = .ok (.goto 4, 3) := by decide +kernel
theorem dX5_in_14 : decode cX5_in 14 = .ok (.iconst 0, 1) := by decide +kernel
theorem dX5_in_15 : decode cX5_in 15 = .ok (.ireturn, 1) := by decide +kernel
theorem dX5_has_0 : decode cX5_has 0 = .ok (.iload_n 0, 1) := by decide +kernel
theorem dX5_has_1 : decode cX5_has 1 = .ok (.iload_n 1, 1) := by decide +kernel
theorem dX5_has_2 : decode cX5_has 2 = .ok (.ishr, 1) := by decide +kernel
theorem dX5_has_3 : decode cX5_has 3 = .ok (.iconst 1, 1) := by decide +kernel
theorem dX5_has_4 : decode cX5_has 4 = .ok (.iand, 1) := by decide +kernel
theorem dX5_has_5 : decode cX5_has 5 = .ok (.iconst 1, 1) := by decide +kernel
theorem dX5_has_6 : decode cX5_has 6 = .ok (.if_icmp .ne 7, 3) := by decide +kernel
theorem dX5_has_9 : decode cX5_has 9 = .ok (.iconst 1, 1) := by decide +kernel
theorem dX5_has_10 : decode cX5_has 10 = .ok (.goto 4, 3) := by decide +kernel
theorem dX5_has_13 : decode cX5_has 13 = .ok (.iconst 0, 1) := by decide +kernel
theorem dX5_has_14 : decode cX5_has 14 = .ok (.ireturn, 1) := by decide +kernel
theorem dX5_valuesOf_0 : decode cX5_valuesOf 0 = .ok (.iload_n 0, 1) := by decide +kernel
theorem dX5_valuesOf_1 : decode cX5_valuesOf 1 = .ok (.ifCond .eq 8, 3) := by decide +kernel
theorem dX5_valuesOf_4 : decode cX5_valuesOf 4 = .ok (.iload_n 0, 1) := by decide +kernel
theorem dX5_valuesOf_5 : decode cX5_valuesOf 5 = .ok (.iconst 2, 1) := by decide +kernel
theorem dX5_valuesOf_6 : decode cX5_valuesOf 6 = .ok (.if_icmp .ne 8, 3) := by decide +kernel
theorem dX5_valuesOf_9 : decode cX5_valuesOf 9 = .ok (.bipush 8, 2) := by decide +kernel
theorem dX5_valuesOf_11 : decode cX5_valuesOf 11 = .ok (.goto 4, 3) := by decide +kernel
theorem dX5_valuesOf_14 : decode cX5_valuesOf 14 = .ok (.iconst 4, 1) := by decide +kernel
theorem dX5_valuesOf_15 : decode cX5_valuesOf 15 = .ok (.ireturn, 1) := by decide +kernel
theorem dX5_append_0 : decode cX5_append 0 = .ok (.iload_n 1, 1) := by decide +kernel
theorem dX5_append_1 : decode cX5_append 1 = .ok (.bipush 32, 2) := by decide +kernel
theorem dX5_append_3 : decode cX5_append 3 = .ok (.bipush 126, 2) := by decide +kernel
theorem dX5_append_5 : decode cX5_append 5 = .ok (.invokestatic 41, 3) := by decide +kernel
theorem dX5_append_8 : decode cX5_append 8 = .ok (.ifCond .ne 5, 3) := by decide +kernel
theorem dX5_append_11 : decode cX5_append 11 = .ok (.iconst (-1), 1) := by decide +kernel
theorem dX5_append_12 : decode cX5_append 12 = .ok (.ireturn, 1) := by decide +kernel
theorem dX5_append_13 : decode cX5_append 13 = .ok (.aload_n 0, 1) := by decide +kernel
theorem dX5_append_14 : decode cX5_append 14 = .ok (.getfield 45, 3) := by decide +kernel
theorem dX5_append_17 : decode cX5_append 17 = .ok (.sipush 240, 3) := by decide +kernel
theorem dX5_append_20 : decode cX5_append 20 = .ok (.if_icmp .ne 6, 3) := by decide +kernel
theorem dX5_append_23 : decode cX5_append 23 = .ok (.bipush (-2), 2) := by decide +kernel
theorem dX5_append_25 : decode cX5_append 25 = .ok (.ireturn, 1) := by decide +kernel
theorem dX5_append_26 : decode cX5_append 26 = .ok (.aload_n 0, 1) := by decide +kernel
theorem dX5_append_27 : decode cX5_append 27 = .ok (.getfield 7, 3) := by decide +kernel
theorem dX5_append_30 : decode cX5_append 30 = .ok (.aload_n 0, 1) := by decide +kernel
theorem dX5_append_31 : decode cX5_append 31 = .ok (.getfield 45, 3) := by decide +kernel
theorem dX5_append_34 : decode cX5_append 34 = .ok (.iload_n 1, 1) := by decide +kernel
theorem dX5_append_35 : decode cX5_append 35 = .ok (.iastore, 1) := by decide +kernel
theorem dX5_append_36 : decode cX5_append 36 = .ok (.aload_n 0, 1) := by decide +kernel
theorem dX5_append_37 : decode cX5_append 37 = .ok (.dup, 1) := by decide +kernel
theorem dX5_append_38 : decode cX5_append 38 = .ok (.getfield 45, 3) := by decide +kernel
theorem dX5_append_41 : decode cX5_append 41 = .ok (.iconst 1, 1) := by decide +kernel
theorem dX5_append_42 : decode cX5_append 42 = .ok (.iadd, 1) := by decide +kernel
theorem dX5_append_43 : decode cX5_append 43 = .ok (.putfield 45, 3) := by decide +kernel
theorem dX5_append_46 : decode cX5_append 46 = .ok (.aload_n 0, 1) := by decide +kernel
theorem dX5_append_47 : decode cX5_append 47 = .ok (.getfield 45, 3) := by decide +kernel
theorem dX5_append_50 : decode cX5_append 50 = .ok (.ireturn, 1) := by decide +kernel
theorem dX5_clearText_0 : decode cX5_clearText 0 = .ok (.aload_n 0, 1) := by decide +kernel
theorem dX5_clearText_1 : decode cX5_clearText 1 = .ok (.getfield 45, 3) := by decide +kernel
theorem dX5_clearText_4 : decode cX5_clearText 4 = .ok (.istore_n 1, 1) := by decide +kernel
theorem dX5_clearText_5 : decode cX5_clearText 5 = .ok (.aload_n 0, 1) := by decide +kernel
theorem dX5_clearText_6 : decode cX5_clearText 6 = .ok (.iconst 0, 1) := by decide +kernel
theorem dX5_clearText_7 : decode cX5_clearText 7 = .ok (.putfield 45, 3) := by decide +kernel
theorem dX5_clearText_10 : decode cX5_clearText 10 = .ok (.iload_n 1, 1) := by decide +kernel
theorem dX5_clearText_11 : decode cX5_clearText 11 = .ok (.ireturn, 1) := by decide +kernel
theorem dX5_next_0 : decode cX5_next 0 = .ok (.aload_n 0, 1) := by decide +kernel
theorem dX5_next_1 : decode cX5_next 1 = .ok (.getfield 49, 3) := by decide +kernel
theorem dX5_next_4 : decode cX5_next 4 = .ok (.aload_n 0, 1) := by decide +kernel
theorem dX5_next_5 : decode cX5_next 5 = .ok (.getfield 45, 3) := by decide +kernel
theorem dX5_next_8 : decode cX5_next 8 = .ok (.if_icmp .ge 15, 3) := by decide +kernel
theorem dX5_next_11 : decode cX5_next 11 = .ok (.aload_n 0, 1) := by decide +kernel
theorem dX5_next_12 : decode cX5_next 12 = .ok (.getfield 7, 3) := by decide +kernel
theorem dX5_next_15 : decode cX5_next 15 = .ok (.aload_n 0, 1) := by decide +kernel
theorem dX5_next_16 : decode cX5_next 16 = .ok (.getfield 49, 3) := by decide +kernel
theorem dX5_next_19 : decode cX5_next 19 = .ok (.iaload, 1) := by decide +kernel
theorem dX5_next_20 : decode cX5_next 20 = .ok (.goto 4, 3) := by decide +kernel
theorem dX5_next_23 : decode cX5_next 23 = .ok (.iconst 0, 1) := by decide +kernel
theorem dX5_next_24 : decode cX5_next 24 = .ok (.ireturn, 1) := by decide +kernel
theorem dX5_is_0 : decode cX5_is 0 = .ok (.aload_n 0, 1) := by decide +kernel
theorem dX5_is_1 : decode cX5_is 1 = .ok (.getfield 49, 3) := by decide +kernel
theorem dX5_is_4 : decode cX5_is 4 = .ok (.iload_n 1, 1) := by decide +kernel
theorem dX5_is_5 : decode cX5_is 5 = .ok (.iadd, 1) := by decide +kernel
theorem dX5_is_6 : decode cX5_is 6 = .ok (.aload_n 0, 1) := by decide +kernel
theorem dX5_is_7 : decode cX5_is 7 = .ok (.getfield 45, 3) := by decide +kernel
theorem dX5_is_10 : decode cX5_is 10 = .ok (.if_icmp .ge 22, 3) := by decide +kernel
theorem dX5_is_13 : decode cX5_is 13 = .ok (.aload_n 0, 1) := by decide +kernel
theorem dX5_is_14 : decode cX5_is 14 = .ok (.getfield 7, 3) := by decide +kernel
theorem dX5_is_17 : decode cX5_is 17 = .ok (.aload_n 0, 1) := by decide +kernel
theorem dX5_is_18 : decode cX5_is 18 = .ok (.getfield 49, 3) := by decide +kernel
theorem dX5_is_21 : decode cX5_is 21 = .ok (.iload_n 1, 1) := by decide +kernel
theorem dX5_is_22 : decode cX5_is 22 = .ok (.iadd, 1) := by decide +kernel
theorem dX5_is_23 : decode cX5_is 23 = .ok (.iaload, 1) := by decide +kernel
theorem dX5_is_24 : decode cX5_is 24 = .ok (.iload_n 2, 1) := by decide +kernel
theorem dX5_is_25 : decode cX5_is 25 = .ok (.if_icmp .ne 7, 3) := by decide +kernel
theorem dX5_is_28 : decode cX5_is 28 = .ok (.iconst 1, 1) := by decide +kernel
theorem dX5_is_29 : decode cX5_is 29 = .ok (.goto 4, 3) := by decide +kernel
theorem dX5_is_32 : decode cX5_is 32 = .ok (.iconst 0, 1) := by decide +kernel
theorem dX5_is_33 : decode cX5_is 33 = .ok (.ireturn, 1) := by decide +kernel
theorem dX5_are_0 : decode cX5_are 0 = .ok (.aload_n 0, 1) := by decide +kernel
theorem dX5_are_1 : decode cX5_are 1 = .ok (.iload_n 1, 1) := by decide +kernel
theorem dX5_are_2 : decode cX5_are 2 = .ok (.iload_n 2, 1) := by decide +kernel
theorem dX5_are_3 : decode cX5_are 3 = .ok (.invokevirtual 52, 3) := by decide +kernel
theorem dX5_are_6 : decode cX5_are 6 = .ok (.ifCond .eq 42, 3) := by decide +kernel
theorem dX5_are_9 : decode cX5_are 9 = .ok (.aload_n 0, 1) := by decide +kernel
theorem dX5_are_10 : decode cX5_are 10 = .ok (.iload_n 1, 1) := by decide +kernel
theorem dX5_are_11 : decode cX5_are 11 = .ok (.iconst 1, 1) := by decide +kernel
theorem dX5_are_12 : decode cX5_are 12 = .ok (.iadd, 1) := by decide +kernel
theorem dX5_are_13 : decode cX5_are 13 = .ok (.iload_n 3, 1) := by decide +kernel
theorem dX5_are_14 : decode cX5_are 14 = .ok (.invokevirtual 52, 3) := by decide +kernel
theorem dX5_are_17 : decode cX5_are 17 = .ok (.ifCond .eq 31, 3) := by decide +kernel
theorem dX5_are_20 : decode cX5_are 20 = .ok (.aload_n 0, 1) := by decide +kernel
theorem dX5_are_21 : decode cX5_are 21 = .ok (.iload_n 1, 1) := by decide +kernel
theorem dX5_are_22 : decode cX5_are 22 = .ok (.iconst 2, 1) := by decide +kernel
theorem dX5_are_23 : decode cX5_are 23 = .ok (.iadd, 1) := by decide +kernel
theorem dX5_are_24 : decode cX5_are 24 = .ok (.iload 4, 2) := by decide +kernel
theorem dX5_are_26 : decode cX5_are 26 = .ok (.invokevirtual 52, 3) := by decide +kernel
theorem dX5_are_29 : decode cX5_are 29 = .ok (.ifCond .eq 19, 3) := by decide +kernel
theorem dX5_are_32 : decode cX5_are 32 = .ok (.aload_n 0, 1) := by decide +kernel
theorem dX5_are_33 : decode cX5_are 33 = .ok (.iload_n 1, 1) := by decide +kernel
theorem dX5_are_34 : decode cX5_are 34 = .ok (.iconst 3, 1) := by decide +kernel
theorem dX5_are_35 : decode cX5_are 35 = .ok (.iadd, 1) := by decide +kernel
theorem dX5_are_36 : decode cX5_are 36 = .ok (.iload 5, 2) := by decide +kernel
theorem dX5_are_38 : decode cX5_are 38 = .ok (.invokevirtual 52, 3) := by decide +kernel
theorem dX5_are_41 : decode cX5_are 41 = .ok (.ifCond .eq 7, 3) := by decide +kernel
theorem dX5_are_44 : decode cX5_are 44 = .ok (.iconst 1, 1) := by decide +kernel
theorem dX5_are_45 : decode cX5_are 45 = .ok (.goto 4, 3) := by decide +kernel
theorem dX5_are_48 : decode cX5_are 48 = .ok (.iconst 0, 1) := by decide +kernel
theorem dX5_are_49 : decode cX5_are 49 = .ok (.ireturn, 1) := by decide +kernel
theorem dX5_word_0 : decode cX5_word 0 = .ok (.aload_n 0, 1) := by decide +kernel
theorem dX5_word_1 : decode cX5_word 1 = .ok (.iconst 0, 1) := by decide +kernel
theorem dX5_word_2 : decode cX5_word 2 = .ok (.iload_n 1, 1) := by decide +kernel
theorem dX5_word_3 : decode cX5_word 3 = .ok (.invokevirtual 52, 3) := by decide +kernel
theorem dX5_word_6 : decode cX5_word 6 = .ok (.ifCond .eq 25, 3) := by decide +kernel
theorem dX5_word_9 : decode cX5_word 9 = .ok (.aload_n 0, 1) := by decide +kernel
theorem dX5_word_10 : decode cX5_word 10 = .ok (.iconst 1, 1) := by decide +kernel
theorem dX5_word_11 : decode cX5_word 11 = .ok (.iload_n 2, 1) := by decide +kernel
theorem dX5_word_12 : decode cX5_word 12 = .ok (.invokevirtual 52, 3) := by decide +kernel
theorem dX5_word_15 : decode cX5_word 15 = .ok (.ifCond .eq 16, 3) := by decide +kernel
theorem dX5_word_18 : decode cX5_word 18 = .ok (.aload_n 0, 1) := by decide +kernel
theorem dX5_word_19 : decode cX5_word 19 = .ok (.iconst 2, 1) := by decide +kernel
theorem dX5_word_20 : decode cX5_word 20 = .ok (.iload_n 3, 1) := by decide +kernel
theorem dX5_word_21 : decode cX5_word 21 = .ok (.invokevirtual 52, 3) := by decide +kernel
theorem dX5_word_24 : decode cX5_word 24 = .ok (.ifCond .eq 7, 3) := by decide +kernel
theorem dX5_word_27 : decode cX5_word 27 = .ok (.iconst 1, 1) := by decide +kernel
theorem dX5_word_28 : decode cX5_word 28 = .ok (.goto 4, 3) := by decide +kernel
theorem dX5_word_31 : decode cX5_word 31 = .ok (.iconst 0, 1) := by decide +kernel
theorem dX5_word_32 : decode cX5_word 32 = .ok (.istore 8, 2) := by decide +kernel
theorem dX5_word_34 : decode cX5_word 34 = .ok (.iload 8, 2) := by decide +kernel
theorem dX5_word_36 : decode cX5_word 36 = .ok (.ifCond .eq 56, 3) := by decide +kernel
theorem dX5_word_39 : decode cX5_word 39 = .ok (.iload 7, 2) := by decide +kernel
theorem dX5_word_41 : decode cX5_word 41 = .ok (.iconst 4, 1) := by decide +kernel
theorem dX5_word_42 : decode cX5_word 42 = .ok (.if_icmp .lt 13, 3) := by decide +kernel
theorem dX5_word_45 : decode cX5_word 45 = .ok (.aload_n 0, 1) := by decide +kernel
theorem dX5_word_46 : decode cX5_word 46 = .ok (.iconst 3, 1) := by decide +kernel
theorem dX5_word_47 : decode cX5_word 47 = .ok (.iload 4, 2) := by decide +kernel
theorem dX5_word_49 : decode cX5_word 49 = .ok (.invokevirtual 52, 3) := by decide +kernel
theorem dX5_word_52 : decode cX5_word 52 = .ok (.ifCond .eq 40, 3) := by decide +kernel
theorem dX5_word_55 : decode cX5_word 55 = .ok (.iload 7, 2) := by decide +kernel
theorem dX5_word_57 : decode cX5_word 57 = .ok (.iconst 5, 1) := by decide +kernel
theorem dX5_word_58 : decode cX5_word 58 = .ok (.if_icmp .lt 13, 3) := by decide +kernel
theorem dX5_word_61 : decode cX5_word 61 = .ok (.aload_n 0, 1) := by decide +kernel
theorem dX5_word_62 : decode cX5_word 62 = .ok (.iconst 4, 1) := by decide +kernel
theorem dX5_word_63 : decode cX5_word 63 = .ok (.iload 5, 2) := by decide +kernel
theorem dX5_word_65 : decode cX5_word 65 = .ok (.invokevirtual 52, 3) := by decide +kernel
theorem dX5_word_68 : decode cX5_word 68 = .ok (.ifCond .eq 24, 3) := by decide +kernel
theorem dX5_word_71 : decode cX5_word 71 = .ok (.iload 7, 2) := by decide +kernel
theorem dX5_word_73 : decode cX5_word 73 = .ok (.bipush 6, 2) := by decide +kernel
theorem dX5_word_75 : decode cX5_word 75 = .ok (.if_icmp .lt 13, 3) := by decide +kernel
theorem dX5_word_78 : decode cX5_word 78 = .ok (.aload_n 0, 1) := by decide +kernel
theorem dX5_word_79 : decode cX5_word 79 = .ok (.iconst 5, 1) := by decide +kernel
theorem dX5_word_80 : decode cX5_word 80 = .ok (.iload 6, 2) := by decide +kernel
theorem dX5_word_82 : decode cX5_word 82 = .ok (.invokevirtual 52, 3) := by decide +kernel
theorem dX5_word_85 : decode cX5_word 85 = .ok (.ifCond .eq 7, 3) := by decide +kernel
theorem dX5_word_88 : decode cX5_word 88 = .ok (.iconst 1, 1) := by decide +kernel
theorem dX5_word_89 : decode cX5_word 89 = .ok (.goto 4, 3) := by decide +kernel
theorem dX5_word_92 : decode cX5_word 92 = .ok (.iconst 0, 1) := by decide +kernel
theorem dX5_word_93 : decode cX5_word 93 = .ok (.istore 8, 2) := by decide +kernel
theorem dX5_word_95 : decode cX5_word 95 = .ok (.aload_n 0, 1) := by decide +kernel
theorem dX5_word_96 : decode cX5_word 96 = .ok (.dup, 1) := by decide +kernel
theorem dX5_word_97 : decode cX5_word 97 = .ok (.getfield 49, 3) := by decide +kernel
theorem dX5_word_100 : decode cX5_word 100 = .ok (.iload 8, 2) := by decide +kernel
theorem dX5_word_102 : decode cX5_word 102 = .ok (.ifCond .eq 8, 3) := by decide +kernel
theorem dX5_word_105 : decode cX5_word 105 = .ok (.iload 7, 2) := by decide +kernel
theorem dX5_word_107 : decode cX5_word 107 = .ok (.goto 4, 3) := by decide +kernel
theorem dX5_word_110 : decode cX5_word 110 = .ok (.iconst 0, 1) := by decide +kernel
theorem dX5_word_111 : decode cX5_word 111 = .ok (.iadd, 1) := by decide +kernel
theorem dX5_word_112 : decode cX5_word 112 = .ok (.putfield 49, 3) := by decide +kernel
theorem dX5_word_115 : decode cX5_word 115 = .ok (.iload 8, 2) := by decide +kernel
theorem dX5_word_117 : decode cX5_word 117 = .ok (.ireturn, 1) := by decide +kernel
theorem dX5_clears_0 : decode cX5_clears 0 = .ok (.iconst 0, 1) := by decide +kernel
theorem dX5_clears_1 : decode cX5_clears 1 = .ok (.istore_n 1, 1) := by decide +kernel
theorem dX5_clears_2 : decode cX5_clears 2 = .ok (.iload_n 1, 1) := by decide +kernel
theorem dX5_clears_3 : decode cX5_clears 3 = .ok (.bipush 84, 2) := by decide +kernel
theorem dX5_clears_5 : decode cX5_clears 5 = .ok (.if_icmp .ge 16, 3) := by decide +kernel
theorem dX5_clears_8 : decode cX5_clears 8 = .ok (.aload_n 0, 1) := by decide +kernel
theorem dX5_clears_9 : decode cX5_clears 9 = .ok (.getfield 16, 3) := by decide +kernel
theorem dX5_clears_12 : decode cX5_clears 12 = .ok (.iload_n 1, 1) := by decide +kernel
theorem dX5_clears_13 : decode cX5_clears 13 = .ok (.iconst 0, 1) := by decide +kernel
theorem dX5_clears_14 : decode cX5_clears 14 = .ok (.iastore, 1) := by decide +kernel
theorem dX5_clears_15 : decode cX5_clears 15 = .ok (.iinc 1 1, 3) := by decide +kernel
theorem dX5_clears_18 : decode cX5_clears 18 = .ok (.goto (-16), 3) := by decide +kernel
theorem dX5_clears_21 : decode cX5_clears 21 = .ok (.return_, 1) := by decide +kernel
theorem dX5_takes_0 : decode cX5_takes 0 = .ok (.iconst 0, 1) := by decide +kernel
theorem dX5_takes_1 : decode cX5_takes 1 = .ok (.istore_n 1, 1) := by decide +kernel
theorem dX5_takes_2 : decode cX5_takes 2 = .ok (.iload_n 1, 1) := by decide +kernel
theorem dX5_takes_3 : decode cX5_takes 3 = .ok (.bipush 84, 2) := by decide +kernel
theorem dX5_takes_5 : decode cX5_takes 5 = .ok (.if_icmp .ge 21, 3) := by decide +kernel
theorem dX5_takes_8 : decode cX5_takes 8 = .ok (.aload_n 0, 1) := by decide +kernel
theorem dX5_takes_9 : decode cX5_takes 9 = .ok (.getfield 13, 3) := by decide +kernel
theorem dX5_takes_12 : decode cX5_takes 12 = .ok (.iload_n 1, 1) := by decide +kernel
theorem dX5_takes_13 : decode cX5_takes 13 = .ok (.aload_n 0, 1) := by decide +kernel
theorem dX5_takes_14 : decode cX5_takes 14 = .ok (.getfield 16, 3) := by decide +kernel
theorem dX5_takes_17 : decode cX5_takes 17 = .ok (.iload_n 1, 1) := by decide +kernel
theorem dX5_takes_18 : decode cX5_takes 18 = .ok (.iaload, 1) := by decide +kernel
theorem dX5_takes_19 : decode cX5_takes 19 = .ok (.iastore, 1) := by decide +kernel
theorem dX5_takes_20 : decode cX5_takes 20 = .ok (.iinc 1 1, 3) := by decide +kernel
theorem dX5_takes_23 : decode cX5_takes 23 = .ok (.goto (-21), 3) := by decide +kernel
theorem dX5_takes_26 : decode cX5_takes 26 = .ok (.aload_n 0, 1) := by decide +kernel
theorem dX5_takes_27 : decode cX5_takes 27 = .ok (.iconst 0, 1) := by decide +kernel
theorem dX5_takes_28 : decode cX5_takes 28 = .ok (.putfield 56, 3) := by decide +kernel
theorem dX5_takes_31 : decode cX5_takes 31 = .ok (.return_, 1) := by decide +kernel
theorem dX5_attributeOf_0 : decode cX5_attributeOf 0 = .ok (.iload_n 0, 1) := by decide +kernel
theorem dX5_attributeOf_1 : decode cX5_attributeOf 1 = .ok (.bipush 115, 2) := by decide +kernel
theorem dX5_attributeOf_3 : decode cX5_attributeOf 3 = .ok (.if_icmp .ne 7, 3) := by decide +kernel
theorem dX5_attributeOf_6 : decode cX5_attributeOf 6 = .ok (.iconst 0, 1) := by decide +kernel
theorem dX5_attributeOf_7 : decode cX5_attributeOf 7 = .ok (.goto 35, 3) := by decide +kernel
theorem dX5_attributeOf_10 : decode cX5_attributeOf 10 = .ok (.iload_n 0, 1) := by decide +kernel
theorem dX5_attributeOf_11 : decode cX5_attributeOf 11 = .ok (.bipush 97, 2) := by decide +kernel
theorem dX5_attributeOf_13 : decode cX5_attributeOf 13 = .ok (.if_icmp .ne 7, 3) := by decide +kernel
theorem dX5_attributeOf_16 : decode cX5_attributeOf 16 = .ok (.iconst 1, 1) := by decide +kernel
theorem dX5_attributeOf_17 : decode cX5_attributeOf 17 = .ok (.goto 25, 3) := by decide +kernel
theorem dX5_attributeOf_20 : decode cX5_attributeOf 20 = .ok (.iload_n 0, 1) := by decide +kernel
theorem dX5_attributeOf_21 : decode cX5_attributeOf 21 = .ok (.bipush 114, 2) := by decide +kernel
theorem dX5_attributeOf_23 : decode cX5_attributeOf 23 = .ok (.if_icmp .ne 7, 3) := by decide +kernel
theorem dX5_attributeOf_26 : decode cX5_attributeOf 26 = .ok (.iconst 2, 1) := by decide +kernel
theorem dX5_attributeOf_27 : decode cX5_attributeOf 27 = .ok (.goto 15, 3) := by decide +kernel
theorem dX5_attributeOf_30 : decode cX5_attributeOf 30 = .ok (.iload_n 0, 1) := by decide +kernel
theorem dX5_attributeOf_31 : decode cX5_attributeOf 31 = .ok (.bipush 108, 2) := by decide +kernel
theorem dX5_attributeOf_33 : decode cX5_attributeOf 33 = .ok (.if_icmp .ne 7, 3) := by decide +kernel
theorem dX5_attributeOf_36 : decode cX5_attributeOf 36 = .ok (.iconst 3, 1) := by decide +kernel
theorem dX5_attributeOf_37 : decode cX5_attributeOf 37 = .ok (.goto 5, 3) := by decide +kernel
theorem dX5_attributeOf_40 : decode cX5_attributeOf 40 = .ok (.bipush (-4), 2) := by decide +kernel
theorem dX5_attributeOf_42 : decode cX5_attributeOf 42 = .ok (.ireturn, 1) := by decide +kernel
theorem dX5_constraints_0 : decode cX5_constraints 0 = .ok (.iconst 0, 1) := by decide +kernel
theorem dX5_constraints_1 : decode cX5_constraints 1 = .ok (.istore_n 2, 1) := by decide +kernel
theorem dX5_constraints_2 : decode cX5_constraints 2 = .ok (.aload_n 0, 1) := by decide +kernel
theorem dX5_constraints_3 : decode cX5_constraints 3 = .ok (.invokevirtual 59, 3) := by decide +kernel
theorem dX5_constraints_6 : decode cX5_constraints 6 = .ok (.bipush 58, 2) := by decide +kernel
theorem dX5_constraints_8 : decode cX5_constraints 8 = .ok (.if_icmp .ne 141, 3) := by decide +kernel
theorem dX5_constraints_11 : decode cX5_constraints 11 = .ok (.aload_n 0, 1) := by decide +kernel
theorem dX5_constraints_12 : decode cX5_constraints 12 = .ok (.dup, 1) := by decide +kernel
theorem dX5_constraints_13 : decode cX5_constraints 13 = .ok (.getfield 49, 3) := by decide +kernel
theorem dX5_constraints_16 : decode cX5_constraints 16 = .ok (.iconst 1, 1) := by decide +kernel
theorem dX5_constraints_17 : decode cX5_constraints 17 = .ok (.iadd, 1) := by decide +kernel
theorem dX5_constraints_18 : decode cX5_constraints 18 = .ok (.putfield 49, 3) := by decide +kernel
theorem dX5_constraints_21 : decode cX5_constraints 21 = .ok (.aload_n 0, 1) := by decide +kernel
theorem dX5_constraints_22 : decode cX5_constraints 22 = .ok (.invokevirtual 59, 3) := by decide +kernel
theorem dX5_constraints_25 : decode cX5_constraints 25 = .ok (.invokestatic 63, 3) := by decide +kernel
theorem dX5_constraints_28 : decode cX5_constraints 28 = .ok (.istore_n 3, 1) := by decide +kernel
theorem dX5_constraints_29 : decode cX5_constraints 29 = .ok (.aload_n 0, 1) := by decide +kernel
theorem dX5_constraints_30 : decode cX5_constraints 30 = .ok (.dup, 1) := by decide +kernel
theorem dX5_constraints_31 : decode cX5_constraints 31 = .ok (.getfield 49, 3) := by decide +kernel
theorem dX5_constraints_34 : decode cX5_constraints 34 = .ok (.iconst 1, 1) := by decide +kernel
theorem dX5_constraints_35 : decode cX5_constraints 35 = .ok (.iadd, 1) := by decide +kernel
theorem dX5_constraints_36 : decode cX5_constraints 36 = .ok (.putfield 49, 3) := by decide +kernel
theorem dX5_constraints_39 : decode cX5_constraints 39 = .ok (.iload_n 3, 1) := by decide +kernel
theorem dX5_constraints_40 : decode cX5_constraints 40 = .ok (.bipush (-4), 2) := by decide +kernel
theorem dX5_constraints_42 : decode cX5_constraints 42 = .ok (.if_icmp .eq 11, 3) := by decide +kernel
theorem dX5_constraints_45 : decode cX5_constraints 45 = .ok (.iload_n 2, 1) := by decide +kernel
theorem dX5_constraints_46 : decode cX5_constraints 46 = .ok (.iload_n 3, 1) := by decide +kernel
theorem dX5_constraints_47 : decode cX5_constraints 47 = .ok (.invokestatic 67, 3) := by decide +kernel
theorem dX5_constraints_50 : decode cX5_constraints 50 = .ok (.ifCond .eq 5, 3) := by decide +kernel
theorem dX5_constraints_53 : decode cX5_constraints 53 = .ok (.iconst 0, 1) := by decide +kernel
theorem dX5_constraints_54 : decode cX5_constraints 54 = .ok (.ireturn, 1) := by decide +kernel
theorem dX5_constraints_55 : decode cX5_constraints 55 = .ok (.iload_n 2, 1) := by decide +kernel
theorem dX5_constraints_56 : decode cX5_constraints 56 = .ok (.iconst 1, 1) := by decide +kernel
theorem dX5_constraints_57 : decode cX5_constraints 57 = .ok (.iload_n 3, 1) := by decide +kernel
theorem dX5_constraints_58 : decode cX5_constraints 58 = .ok (.ishl, 1) := by decide +kernel
theorem dX5_constraints_59 : decode cX5_constraints 59 = .ok (.ior, 1) := by decide +kernel
theorem dX5_constraints_60 : decode cX5_constraints 60 = .ok (.istore_n 2, 1) := by decide +kernel
theorem dX5_constraints_61 : decode cX5_constraints 61 = .ok (.iconst 0, 1) := by decide +kernel
theorem dX5_constraints_62 : decode cX5_constraints 62 = .ok (.istore 4, 2) := by decide +kernel
theorem dX5_constraints_64 : decode cX5_constraints 64 = .ok (.aload_n 0, 1) := by decide +kernel
theorem dX5_constraints_65 : decode cX5_constraints 65 = .ok (.invokevirtual 59, 3) := by decide +kernel
theorem dX5_constraints_68 : decode cX5_constraints 68 = .ok (.bipush 48, 2) := by decide +kernel
theorem dX5_constraints_70 : decode cX5_constraints 70 = .ok (.bipush 48, 2) := by decide +kernel
theorem dX5_constraints_72 : decode cX5_constraints 72 = .ok (.iload_n 3, 1) := by decide +kernel
theorem dX5_constraints_73 : decode cX5_constraints 73 = .ok (.invokestatic 70, 3) := by decide +kernel
theorem dX5_constraints_76 : decode cX5_constraints 76 = .ok (.iadd, 1) := by decide +kernel
theorem dX5_constraints_77 : decode cX5_constraints 77 = .ok (.iconst 1, 1) := by decide +kernel
theorem dX5_constraints_78 : decode cX5_constraints 78 = .ok (.isub, 1) := by decide +kernel
theorem dX5_constraints_79 : decode cX5_constraints 79 = .ok (.invokestatic 41, 3) := by decide +kernel
theorem dX5_constraints_82 : decode cX5_constraints 82 = .ok (.ifCond .eq 45, 3) := by decide +kernel
theorem dX5_constraints_85 : decode cX5_constraints 85 = .ok (.iload 4, 2) := by decide +kernel
theorem dX5_constraints_87 : decode cX5_constraints 87 = .ok (.aload_n 0, 1) := by decide +kernel
theorem dX5_constraints_88 : decode cX5_constraints 88 = .ok (.invokevirtual 59, 3) := by decide +kernel
theorem dX5_constraints_91 : decode cX5_constraints 91 = .ok (.bipush 48, 2) := by decide +kernel
theorem dX5_constraints_93 : decode cX5_constraints 93 = .ok (.isub, 1) := by decide +kernel
theorem dX5_constraints_94 : decode cX5_constraints 94 = .ok (.invokestatic 67, 3) := by decide +kernel
theorem dX5_constraints_97 : decode cX5_constraints 97 = .ok (.ifCond .ne 30, 3) := by decide +kernel
theorem dX5_constraints_100 : decode cX5_constraints 100 = .ok (.iload 4, 2) := by decide +kernel
theorem dX5_constraints_102 : decode cX5_constraints 102 = .ok (.iconst 1, 1) := by decide +kernel
theorem dX5_constraints_103 : decode cX5_constraints 103 = .ok (.aload_n 0, 1) := by decide +kernel
theorem dX5_constraints_104 : decode cX5_constraints 104 = .ok (.invokevirtual 59, 3) := by decide +kernel
theorem dX5_constraints_107 : decode cX5_constraints 107 = .ok (.bipush 48, 2) := by decide +kernel
theorem dX5_constraints_109 : decode cX5_constraints 109 = .ok (.isub, 1) := by decide +kernel
theorem dX5_constraints_110 : decode cX5_constraints 110 = .ok (.ishl, 1) := by decide +kernel
theorem dX5_constraints_111 : decode cX5_constraints 111 = .ok (.ior, 1) := by decide +kernel
theorem dX5_constraints_112 : decode cX5_constraints 112 = .ok (.istore 4, 2) := by decide +kernel
theorem dX5_constraints_114 : decode cX5_constraints 114 = .ok (.aload_n 0, 1) := by decide +kernel
theorem dX5_constraints_115 : decode cX5_constraints 115 = .ok (.dup, 1) := by decide +kernel
theorem dX5_constraints_116 : decode cX5_constraints 116 = .ok (.getfield 49, 3) := by decide +kernel
theorem dX5_constraints_119 : decode cX5_constraints 119 = .ok (.iconst 1, 1) := by decide +kernel
theorem dX5_constraints_120 : decode cX5_constraints 120 = .ok (.iadd, 1) := by decide +kernel
theorem dX5_constraints_121 : decode cX5_constraints 121 = .ok (.putfield 49, 3) := by decide +kernel
theorem dX5_constraints_124 : decode cX5_constraints 124 = .ok (.goto (-60), 3) := by decide +kernel
theorem dX5_constraints_127 : decode cX5_constraints 127 = .ok (.iload 4, 2) := by decide +kernel
theorem dX5_constraints_129 : decode cX5_constraints 129 = .ok (.ifCond .ne 5, 3) := by decide +kernel
theorem dX5_constraints_132 : decode cX5_constraints 132 = .ok (.iconst 0, 1) := by decide +kernel
theorem dX5_constraints_133 : decode cX5_constraints 133 = .ok (.ireturn, 1) := by decide +kernel
theorem dX5_constraints_134 : decode cX5_constraints 134 = .ok (.aload_n 0, 1) := by decide +kernel
theorem dX5_constraints_135 : decode cX5_constraints 135 = .ok (.getfield 16, 3) := by decide +kernel
theorem dX5_constraints_138 : decode cX5_constraints 138 = .ok (.iload_n 1, 1) := by decide +kernel
theorem dX5_constraints_139 : decode cX5_constraints 139 = .ok (.iconst 1, 1) := by decide +kernel
theorem dX5_constraints_140 : decode cX5_constraints 140 = .ok (.iadd, 1) := by decide +kernel
theorem dX5_constraints_141 : decode cX5_constraints 141 = .ok (.iload_n 3, 1) := by decide +kernel
theorem dX5_constraints_142 : decode cX5_constraints 142 = .ok (.iadd, 1) := by decide +kernel
theorem dX5_constraints_143 : decode cX5_constraints 143 = .ok (.iload 4, 2) := by decide +kernel
theorem dX5_constraints_145 : decode cX5_constraints 145 = .ok (.iastore, 1) := by decide +kernel
theorem dX5_constraints_146 : decode cX5_constraints 146 = .ok (.goto (-144), 3) := by decide +kernel
theorem dX5_constraints_149 : decode cX5_constraints 149 = .ok (.iconst 1, 1) := by decide +kernel
theorem dX5_constraints_150 : decode cX5_constraints 150 = .ok (.ireturn, 1) := by decide +kernel
theorem dX5_rule_0 : decode cX5_rule 0 = .ok (.aload_n 0, 1) := by decide +kernel
theorem dX5_rule_1 : decode cX5_rule 1 = .ok (.getfield 16, 3) := by decide +kernel
theorem dX5_rule_4 : decode cX5_rule 4 = .ok (.bipush 42, 2) := by decide +kernel
theorem dX5_rule_6 : decode cX5_rule 6 = .ok (.iload_n 1, 1) := by decide +kernel
theorem dX5_rule_7 : decode cX5_rule 7 = .ok (.imul, 1) := by decide +kernel
theorem dX5_rule_8 : decode cX5_rule 8 = .ok (.iaload, 1) := by decide +kernel
theorem dX5_rule_9 : decode cX5_rule 9 = .ok (.istore_n 3, 1) := by decide +kernel
theorem dX5_rule_10 : decode cX5_rule 10 = .ok (.iload_n 3, 1) := by decide +kernel
theorem dX5_rule_11 : decode cX5_rule 11 = .ok (.bipush 8, 2) := by decide +kernel
theorem dX5_rule_13 : decode cX5_rule 13 = .ok (.if_icmp .ne 5, 3) := by decide +kernel
theorem dX5_rule_16 : decode cX5_rule 16 = .ok (.iconst 0, 1) := by decide +kernel
theorem dX5_rule_17 : decode cX5_rule 17 = .ok (.ireturn, 1) := by decide +kernel
theorem dX5_rule_18 : decode cX5_rule 18 = .ok (.bipush 42, 2) := by decide +kernel
theorem dX5_rule_20 : decode cX5_rule 20 = .ok (.iload_n 1, 1) := by decide +kernel
theorem dX5_rule_21 : decode cX5_rule 21 = .ok (.imul, 1) := by decide +kernel
theorem dX5_rule_22 : decode cX5_rule 22 = .ok (.iconst 2, 1) := by decide +kernel
theorem dX5_rule_23 : decode cX5_rule 23 = .ok (.iadd, 1) := by decide +kernel
theorem dX5_rule_24 : decode cX5_rule 24 = .ok (.iconst 5, 1) := by decide +kernel
theorem dX5_rule_25 : decode cX5_rule 25 = .ok (.iload_n 3, 1) := by decide +kernel
theorem dX5_rule_26 : decode cX5_rule 26 = .ok (.imul, 1) := by decide +kernel
theorem dX5_rule_27 : decode cX5_rule 27 = .ok (.iadd, 1) := by decide +kernel
theorem dX5_rule_28 : decode cX5_rule 28 = .ok (.istore 4, 2) := by decide +kernel
theorem dX5_rule_30 : decode cX5_rule 30 = .ok (.aload_n 0, 1) := by decide +kernel
theorem dX5_rule_31 : decode cX5_rule 31 = .ok (.getfield 16, 3) := by decide +kernel
theorem dX5_rule_34 : decode cX5_rule 34 = .ok (.iload 4, 2) := by decide +kernel
theorem dX5_rule_36 : decode cX5_rule 36 = .ok (.iload_n 2, 1) := by decide +kernel
theorem dX5_rule_37 : decode cX5_rule 37 = .ok (.iastore, 1) := by decide +kernel
theorem dX5_rule_38 : decode cX5_rule 38 = .ok (.iconst 0, 1) := by decide +kernel
theorem dX5_rule_39 : decode cX5_rule 39 = .ok (.istore 5, 2) := by decide +kernel
theorem dX5_rule_41 : decode cX5_rule 41 = .ok (.iload 5, 2) := by decide +kernel
theorem dX5_rule_43 : decode cX5_rule 43 = .ok (.iconst 4, 1) := by decide +kernel
theorem dX5_rule_44 : decode cX5_rule 44 = .ok (.if_icmp .ge 30, 3) := by decide +kernel
theorem dX5_rule_47 : decode cX5_rule 47 = .ok (.aload_n 0, 1) := by decide +kernel
theorem dX5_rule_48 : decode cX5_rule 48 = .ok (.getfield 16, 3) := by decide +kernel
theorem dX5_rule_51 : decode cX5_rule 51 = .ok (.iload 4, 2) := by decide +kernel
theorem dX5_rule_53 : decode cX5_rule 53 = .ok (.iconst 1, 1) := by decide +kernel
theorem dX5_rule_54 : decode cX5_rule 54 = .ok (.iadd, 1) := by decide +kernel
theorem dX5_rule_55 : decode cX5_rule 55 = .ok (.iload 5, 2) := by decide +kernel
theorem dX5_rule_57 : decode cX5_rule 57 = .ok (.iadd, 1) := by decide +kernel
theorem dX5_rule_58 : decode cX5_rule 58 = .ok (.iconst 1, 1) := by decide +kernel
theorem dX5_rule_59 : decode cX5_rule 59 = .ok (.iload 5, 2) := by decide +kernel
theorem dX5_rule_61 : decode cX5_rule 61 = .ok (.invokestatic 70, 3) := by decide +kernel
theorem dX5_rule_64 : decode cX5_rule 64 = .ok (.ishl, 1) := by decide +kernel
theorem dX5_rule_65 : decode cX5_rule 65 = .ok (.iconst 1, 1) := by decide +kernel
theorem dX5_rule_66 : decode cX5_rule 66 = .ok (.isub, 1) := by decide +kernel
theorem dX5_rule_67 : decode cX5_rule 67 = .ok (.iastore, 1) := by decide +kernel
theorem dX5_rule_68 : decode cX5_rule 68 = .ok (.iinc 5 1, 3) := by decide +kernel
theorem dX5_rule_71 : decode cX5_rule 71 = .ok (.goto (-30), 3) := by decide +kernel
theorem dX5_rule_74 : decode cX5_rule 74 = .ok (.aload_n 0, 1) := by decide +kernel
theorem dX5_rule_75 : decode cX5_rule 75 = .ok (.getfield 16, 3) := by decide +kernel
theorem dX5_rule_78 : decode cX5_rule 78 = .ok (.bipush 42, 2) := by decide +kernel
theorem dX5_rule_80 : decode cX5_rule 80 = .ok (.iload_n 1, 1) := by decide +kernel
theorem dX5_rule_81 : decode cX5_rule 81 = .ok (.imul, 1) := by decide +kernel
theorem dX5_rule_82 : decode cX5_rule 82 = .ok (.dup2, 1) := by decide +kernel
theorem dX5_rule_83 : decode cX5_rule 83 = .ok (.iaload, 1) := by decide +kernel
theorem dX5_rule_84 : decode cX5_rule 84 = .ok (.iconst 1, 1) := by decide +kernel
theorem dX5_rule_85 : decode cX5_rule 85 = .ok (.iadd, 1) := by decide +kernel
theorem dX5_rule_86 : decode cX5_rule 86 = .ok (.iastore, 1) := by decide +kernel
theorem dX5_rule_87 : decode cX5_rule 87 = .ok (.aload_n 0, 1) := by decide +kernel
theorem dX5_rule_88 : decode cX5_rule 88 = .ok (.iload 4, 2) := by decide +kernel
theorem dX5_rule_90 : decode cX5_rule 90 = .ok (.invokevirtual 73, 3) := by decide +kernel
theorem dX5_rule_93 : decode cX5_rule 93 = .ok (.ireturn, 1) := by decide +kernel
theorem dX5_algorithm_0 : decode cX5_algorithm 0 = .ok (.aload_n 0, 1) := by decide +kernel
theorem dX5_algorithm_1 : decode cX5_algorithm 1 = .ok (.bipush 102, 2) := by decide +kernel
theorem dX5_algorithm_3 : decode cX5_algorithm 3 = .ok (.bipush 105, 2) := by decide +kernel
theorem dX5_algorithm_5 : decode cX5_algorithm 5 = .ok (.bipush 114, 2) := by decide +kernel
theorem dX5_algorithm_7 : decode cX5_algorithm 7 = .ok (.bipush 115, 2) := by decide +kernel
theorem dX5_algorithm_9 : decode cX5_algorithm 9 = .ok (.bipush 116, 2) := by decide +kernel
theorem dX5_algorithm_11 : decode cX5_algorithm 11 = .ok (.iconst 0, 1) := by decide +kernel
theorem dX5_algorithm_12 : decode cX5_algorithm 12 = .ok (.iconst 5, 1) := by decide +kernel
theorem dX5_algorithm_13 : decode cX5_algorithm 13 = .ok (.invokevirtual 77, 3) := by decide +kernel
theorem dX5_algorithm_16 : decode cX5_algorithm 16 = .ok (.ifCond .eq 5, 3) := by decide +kernel
theorem dX5_algorithm_19 : decode cX5_algorithm 19 = .ok (.iconst 0, 1) := by decide +kernel
theorem dX5_algorithm_20 : decode cX5_algorithm 20 = .ok (.ireturn, 1) := by decide +kernel
theorem dX5_algorithm_21 : decode cX5_algorithm 21 = .ok (.aload_n 0, 1) := by decide +kernel
theorem dX5_algorithm_22 : decode cX5_algorithm 22 = .ok (.iconst 4, 1) := by decide +kernel
theorem dX5_algorithm_23 : decode cX5_algorithm 23 = .ok (.bipush 111, 2) := by decide +kernel
theorem dX5_algorithm_25 : decode cX5_algorithm 25 = .ok (.bipush 118, 2) := by decide +kernel
theorem dX5_algorithm_27 : decode cX5_algorithm 27 = .ok (.bipush 101, 2) := by decide +kernel
theorem dX5_algorithm_29 : decode cX5_algorithm 29 = .ok (.bipush 114, 2) := by decide +kernel
theorem dX5_algorithm_31 : decode cX5_algorithm 31 = .ok (.invokevirtual 81, 3) := by decide +kernel
theorem dX5_algorithm_34 : decode cX5_algorithm 34 = .ok (.ifCond .eq 33, 3) := by decide +kernel
theorem dX5_algorithm_37 : decode cX5_algorithm 37 = .ok (.aload_n 0, 1) := by decide +kernel
theorem dX5_algorithm_38 : decode cX5_algorithm 38 = .ok (.bipush 100, 2) := by decide +kernel
theorem dX5_algorithm_40 : decode cX5_algorithm 40 = .ok (.bipush 101, 2) := by decide +kernel
theorem dX5_algorithm_42 : decode cX5_algorithm 42 = .ok (.bipush 110, 2) := by decide +kernel
theorem dX5_algorithm_44 : decode cX5_algorithm 44 = .ok (.bipush 121, 2) := by decide +kernel
theorem dX5_algorithm_46 : decode cX5_algorithm 46 = .ok (.iconst 0, 1) := by decide +kernel
theorem dX5_algorithm_47 : decode cX5_algorithm 47 = .ok (.iconst 0, 1) := by decide +kernel
theorem dX5_algorithm_48 : decode cX5_algorithm 48 = .ok (.iconst 4, 1) := by decide +kernel
theorem dX5_algorithm_49 : decode cX5_algorithm 49 = .ok (.invokevirtual 77, 3) := by decide +kernel
theorem dX5_algorithm_52 : decode cX5_algorithm 52 = .ok (.ifCond .eq 15, 3) := by decide +kernel
theorem dX5_algorithm_55 : decode cX5_algorithm 55 = .ok (.aload_n 0, 1) := by decide +kernel
theorem dX5_algorithm_56 : decode cX5_algorithm 56 = .ok (.dup, 1) := by decide +kernel
theorem dX5_algorithm_57 : decode cX5_algorithm 57 = .ok (.getfield 49, 3) := by decide +kernel
theorem dX5_algorithm_60 : decode cX5_algorithm 60 = .ok (.iconst 4, 1) := by decide +kernel
theorem dX5_algorithm_61 : decode cX5_algorithm 61 = .ok (.iadd, 1) := by decide +kernel
theorem dX5_algorithm_62 : decode cX5_algorithm 62 = .ok (.putfield 49, 3) := by decide +kernel
theorem dX5_algorithm_65 : decode cX5_algorithm 65 = .ok (.iconst 1, 1) := by decide +kernel
theorem dX5_algorithm_66 : decode cX5_algorithm 66 = .ok (.ireturn, 1) := by decide +kernel
theorem dX5_algorithm_67 : decode cX5_algorithm 67 = .ok (.aload_n 0, 1) := by decide +kernel
theorem dX5_algorithm_68 : decode cX5_algorithm 68 = .ok (.bipush 6, 2) := by decide +kernel
theorem dX5_algorithm_70 : decode cX5_algorithm 70 = .ok (.bipush 111, 2) := by decide +kernel
theorem dX5_algorithm_72 : decode cX5_algorithm 72 = .ok (.bipush 118, 2) := by decide +kernel
theorem dX5_algorithm_74 : decode cX5_algorithm 74 = .ok (.bipush 101, 2) := by decide +kernel
theorem dX5_algorithm_76 : decode cX5_algorithm 76 = .ok (.bipush 114, 2) := by decide +kernel
theorem dX5_algorithm_78 : decode cX5_algorithm 78 = .ok (.invokevirtual 81, 3) := by decide +kernel
theorem dX5_algorithm_81 : decode cX5_algorithm 81 = .ok (.ifCond .eq 36, 3) := by decide +kernel
theorem dX5_algorithm_84 : decode cX5_algorithm 84 = .ok (.aload_n 0, 1) := by decide +kernel
theorem dX5_algorithm_85 : decode cX5_algorithm 85 = .ok (.bipush 112, 2) := by decide +kernel
theorem dX5_algorithm_87 : decode cX5_algorithm 87 = .ok (.bipush 101, 2) := by decide +kernel
theorem dX5_algorithm_89 : decode cX5_algorithm 89 = .ok (.bipush 114, 2) := by decide +kernel
theorem dX5_algorithm_91 : decode cX5_algorithm 91 = .ok (.bipush 109, 2) := by decide +kernel
theorem dX5_algorithm_93 : decode cX5_algorithm 93 = .ok (.bipush 105, 2) := by decide +kernel
theorem dX5_algorithm_95 : decode cX5_algorithm 95 = .ok (.bipush 116, 2) := by decide +kernel
theorem dX5_algorithm_97 : decode cX5_algorithm 97 = .ok (.bipush 6, 2) := by decide +kernel
theorem dX5_algorithm_99 : decode cX5_algorithm 99 = .ok (.invokevirtual 77, 3) := by decide +kernel
theorem dX5_algorithm_102 : decode cX5_algorithm 102 = .ok (.ifCond .eq 15, 3) := by decide +kernel
theorem dX5_algorithm_105 : decode cX5_algorithm 105 = .ok (.aload_n 0, 1) := by decide +kernel
theorem dX5_algorithm_106 : decode cX5_algorithm 106 = .ok (.dup, 1) := by decide +kernel
theorem dX5_algorithm_107 : decode cX5_algorithm 107 = .ok (.getfield 49, 3) := by decide +kernel
theorem dX5_algorithm_110 : decode cX5_algorithm 110 = .ok (.iconst 4, 1) := by decide +kernel
theorem dX5_algorithm_111 : decode cX5_algorithm 111 = .ok (.iadd, 1) := by decide +kernel
theorem dX5_algorithm_112 : decode cX5_algorithm 112 = .ok (.putfield 49, 3) := by decide +kernel
theorem dX5_algorithm_115 : decode cX5_algorithm 115 = .ok (.iconst 2, 1) := by decide +kernel
theorem dX5_algorithm_116 : decode cX5_algorithm 116 = .ok (.ireturn, 1) := by decide +kernel
theorem dX5_algorithm_117 : decode cX5_algorithm 117 = .ok (.aload_n 0, 1) := by decide +kernel
theorem dX5_algorithm_118 : decode cX5_algorithm 118 = .ok (.bipush 6, 2) := by decide +kernel
theorem dX5_algorithm_120 : decode cX5_algorithm 120 = .ok (.bipush 101, 2) := by decide +kernel
theorem dX5_algorithm_122 : decode cX5_algorithm 122 = .ok (.invokevirtual 52, 3) := by decide +kernel
theorem dX5_algorithm_125 : decode cX5_algorithm 125 = .ok (.ifCond .eq 36, 3) := by decide +kernel
theorem dX5_algorithm_128 : decode cX5_algorithm 128 = .ok (.aload_n 0, 1) := by decide +kernel
theorem dX5_algorithm_129 : decode cX5_algorithm 129 = .ok (.bipush 111, 2) := by decide +kernel
theorem dX5_algorithm_131 : decode cX5_algorithm 131 = .ok (.bipush 110, 2) := by decide +kernel
theorem dX5_algorithm_133 : decode cX5_algorithm 133 = .ok (.bipush 108, 2) := by decide +kernel
theorem dX5_algorithm_135 : decode cX5_algorithm 135 = .ok (.bipush 121, 2) := by decide +kernel
theorem dX5_algorithm_137 : decode cX5_algorithm 137 = .ok (.bipush 111, 2) := by decide +kernel
theorem dX5_algorithm_139 : decode cX5_algorithm 139 = .ok (.bipush 110, 2) := by decide +kernel
theorem dX5_algorithm_141 : decode cX5_algorithm 141 = .ok (.bipush 6, 2) := by decide +kernel
theorem dX5_algorithm_143 : decode cX5_algorithm 143 = .ok (.invokevirtual 77, 3) := by decide +kernel
theorem dX5_algorithm_146 : decode cX5_algorithm 146 = .ok (.ifCond .eq 15, 3) := by decide +kernel
theorem dX5_algorithm_149 : decode cX5_algorithm 149 = .ok (.aload_n 0, 1) := by decide +kernel
theorem dX5_algorithm_150 : decode cX5_algorithm 150 = .ok (.dup, 1) := by decide +kernel
theorem dX5_algorithm_151 : decode cX5_algorithm 151 = .ok (.getfield 49, 3) := by decide +kernel
theorem dX5_algorithm_154 : decode cX5_algorithm 154 = .ok (.iconst 1, 1) := by decide +kernel
theorem dX5_algorithm_155 : decode cX5_algorithm 155 = .ok (.iadd, 1) := by decide +kernel
theorem dX5_algorithm_156 : decode cX5_algorithm 156 = .ok (.putfield 49, 3) := by decide +kernel
theorem dX5_algorithm_159 : decode cX5_algorithm 159 = .ok (.iconst 3, 1) := by decide +kernel
theorem dX5_algorithm_160 : decode cX5_algorithm 160 = .ok (.ireturn, 1) := by decide +kernel
theorem dX5_algorithm_161 : decode cX5_algorithm 161 = .ok (.aload_n 0, 1) := by decide +kernel
theorem dX5_algorithm_162 : decode cX5_algorithm 162 = .ok (.bipush 6, 2) := by decide +kernel
theorem dX5_algorithm_164 : decode cX5_algorithm 164 = .ok (.bipush 116, 2) := by decide +kernel
theorem dX5_algorithm_166 : decode cX5_algorithm 166 = .ok (.invokevirtual 52, 3) := by decide +kernel
theorem dX5_algorithm_169 : decode cX5_algorithm 169 = .ok (.ifCond .eq 47, 3) := by decide +kernel
theorem dX5_algorithm_172 : decode cX5_algorithm 172 = .ok (.aload_n 0, 1) := by decide +kernel
theorem dX5_algorithm_173 : decode cX5_algorithm 173 = .ok (.bipush 7, 2) := by decide +kernel
theorem dX5_algorithm_175 : decode cX5_algorithm 175 = .ok (.bipush 121, 2) := by decide +kernel
theorem dX5_algorithm_177 : decode cX5_algorithm 177 = .ok (.invokevirtual 52, 3) := by decide +kernel
theorem dX5_algorithm_180 : decode cX5_algorithm 180 = .ok (.ifCond .eq 36, 3) := by decide +kernel
theorem dX5_algorithm_183 : decode cX5_algorithm 183 = .ok (.aload_n 0, 1) := by decide +kernel
theorem dX5_algorithm_184 : decode cX5_algorithm 184 = .ok (.bipush 109, 2) := by decide +kernel
theorem dX5_algorithm_186 : decode cX5_algorithm 186 = .ok (.bipush 97, 2) := by decide +kernel
theorem dX5_algorithm_188 : decode cX5_algorithm 188 = .ok (.bipush 106, 2) := by decide +kernel
theorem dX5_algorithm_190 : decode cX5_algorithm 190 = .ok (.bipush 111, 2) := by decide +kernel
theorem dX5_algorithm_192 : decode cX5_algorithm 192 = .ok (.bipush 114, 2) := by decide +kernel
theorem dX5_algorithm_194 : decode cX5_algorithm 194 = .ok (.bipush 105, 2) := by decide +kernel
theorem dX5_algorithm_196 : decode cX5_algorithm 196 = .ok (.bipush 6, 2) := by decide +kernel
theorem dX5_algorithm_198 : decode cX5_algorithm 198 = .ok (.invokevirtual 77, 3) := by decide +kernel
theorem dX5_algorithm_201 : decode cX5_algorithm 201 = .ok (.ifCond .eq 15, 3) := by decide +kernel
theorem dX5_algorithm_204 : decode cX5_algorithm 204 = .ok (.aload_n 0, 1) := by decide +kernel
theorem dX5_algorithm_205 : decode cX5_algorithm 205 = .ok (.dup, 1) := by decide +kernel
theorem dX5_algorithm_206 : decode cX5_algorithm 206 = .ok (.getfield 49, 3) := by decide +kernel
theorem dX5_algorithm_209 : decode cX5_algorithm 209 = .ok (.iconst 2, 1) := by decide +kernel
theorem dX5_algorithm_210 : decode cX5_algorithm 210 = .ok (.iadd, 1) := by decide +kernel
theorem dX5_algorithm_211 : decode cX5_algorithm 211 = .ok (.putfield 49, 3) := by decide +kernel
theorem dX5_algorithm_214 : decode cX5_algorithm 214 = .ok (.iconst 4, 1) := by decide +kernel
theorem dX5_algorithm_215 : decode cX5_algorithm 215 = .ok (.ireturn, 1) := by decide +kernel
theorem dX5_algorithm_216 : decode cX5_algorithm 216 = .ok (.bipush (-4), 2) := by decide +kernel
theorem dX5_algorithm_218 : decode cX5_algorithm 218 = .ok (.ireturn, 1) := by decide +kernel
theorem dX5_statement_0 : decode cX5_statement 0 = .ok (.aload_n 0, 1) := by decide +kernel
theorem dX5_statement_1 : decode cX5_statement 1 = .ok (.bipush 111, 2) := by decide +kernel
theorem dX5_statement_3 : decode cX5_statement 3 = .ok (.bipush 108, 2) := by decide +kernel
theorem dX5_statement_5 : decode cX5_statement 5 = .ok (.bipush 100, 2) := by decide +kernel
theorem dX5_statement_7 : decode cX5_statement 7 = .ok (.iconst 0, 1) := by decide +kernel
theorem dX5_statement_8 : decode cX5_statement 8 = .ok (.iconst 0, 1) := by decide +kernel
theorem dX5_statement_9 : decode cX5_statement 9 = .ok (.iconst 0, 1) := by decide +kernel
theorem dX5_statement_10 : decode cX5_statement 10 = .ok (.iconst 3, 1) := by decide +kernel
theorem dX5_statement_11 : decode cX5_statement 11 = .ok (.invokevirtual 77, 3) := by decide +kernel
theorem dX5_statement_14 : decode cX5_statement 14 = .ok (.ifCond .eq 10, 3) := by decide +kernel
theorem dX5_statement_17 : decode cX5_statement 17 = .ok (.aload_n 0, 1) := by decide +kernel
theorem dX5_statement_18 : decode cX5_statement 18 = .ok (.iconst 0, 1) := by decide +kernel
theorem dX5_statement_19 : decode cX5_statement 19 = .ok (.putfield 85, 3) := by decide +kernel
theorem dX5_statement_22 : decode cX5_statement 22 = .ok (.iconst 1, 1) := by decide +kernel
theorem dX5_statement_23 : decode cX5_statement 23 = .ok (.ireturn, 1) := by decide +kernel
theorem dX5_statement_24 : decode cX5_statement 24 = .ok (.aload_n 0, 1) := by decide +kernel
theorem dX5_statement_25 : decode cX5_statement 25 = .ok (.bipush 110, 2) := by decide +kernel
theorem dX5_statement_27 : decode cX5_statement 27 = .ok (.bipush 101, 2) := by decide +kernel
theorem dX5_statement_29 : decode cX5_statement 29 = .ok (.bipush 119, 2) := by decide +kernel
theorem dX5_statement_31 : decode cX5_statement 31 = .ok (.iconst 0, 1) := by decide +kernel
theorem dX5_statement_32 : decode cX5_statement 32 = .ok (.iconst 0, 1) := by decide +kernel
theorem dX5_statement_33 : decode cX5_statement 33 = .ok (.iconst 0, 1) := by decide +kernel
theorem dX5_statement_34 : decode cX5_statement 34 = .ok (.iconst 3, 1) := by decide +kernel
theorem dX5_statement_35 : decode cX5_statement 35 = .ok (.invokevirtual 77, 3) := by decide +kernel
theorem dX5_statement_38 : decode cX5_statement 38 = .ok (.ifCond .eq 10, 3) := by decide +kernel
theorem dX5_statement_41 : decode cX5_statement 41 = .ok (.aload_n 0, 1) := by decide +kernel
theorem dX5_statement_42 : decode cX5_statement 42 = .ok (.iconst 1, 1) := by decide +kernel
theorem dX5_statement_43 : decode cX5_statement 43 = .ok (.putfield 85, 3) := by decide +kernel
theorem dX5_statement_46 : decode cX5_statement 46 = .ok (.iconst 1, 1) := by decide +kernel
theorem dX5_statement_47 : decode cX5_statement 47 = .ok (.ireturn, 1) := by decide +kernel
theorem dX5_statement_48 : decode cX5_statement 48 = .ok (.aload_n 0, 1) := by decide +kernel
theorem dX5_statement_49 : decode cX5_statement 49 = .ok (.bipush 112, 2) := by decide +kernel
theorem dX5_statement_51 : decode cX5_statement 51 = .ok (.bipush 101, 2) := by decide +kernel
theorem dX5_statement_53 : decode cX5_statement 53 = .ok (.bipush 114, 2) := by decide +kernel
theorem dX5_statement_55 : decode cX5_statement 55 = .ok (.bipush 109, 2) := by decide +kernel
theorem dX5_statement_57 : decode cX5_statement 57 = .ok (.bipush 105, 2) := by decide +kernel
theorem dX5_statement_59 : decode cX5_statement 59 = .ok (.bipush 116, 2) := by decide +kernel
theorem dX5_statement_61 : decode cX5_statement 61 = .ok (.bipush 6, 2) := by decide +kernel
theorem dX5_statement_63 : decode cX5_statement 63 = .ok (.invokevirtual 77, 3) := by decide +kernel
theorem dX5_statement_66 : decode cX5_statement 66 = .ok (.ifCond .eq 13, 3) := by decide +kernel
theorem dX5_statement_69 : decode cX5_statement 69 = .ok (.aload_n 0, 1) := by decide +kernel
theorem dX5_statement_70 : decode cX5_statement 70 = .ok (.aload_n 0, 1) := by decide +kernel
theorem dX5_statement_71 : decode cX5_statement 71 = .ok (.getfield 85, 3) := by decide +kernel
theorem dX5_statement_74 : decode cX5_statement 74 = .ok (.iconst 0, 1) := by decide +kernel
theorem dX5_statement_75 : decode cX5_statement 75 = .ok (.invokevirtual 88, 3) := by decide +kernel
theorem dX5_statement_78 : decode cX5_statement 78 = .ok (.ireturn, 1) := by decide +kernel
theorem dX5_statement_79 : decode cX5_statement 79 = .ok (.aload_n 0, 1) := by decide +kernel
theorem dX5_statement_80 : decode cX5_statement 80 = .ok (.bipush 100, 2) := by decide +kernel
theorem dX5_statement_82 : decode cX5_statement 82 = .ok (.bipush 101, 2) := by decide +kernel
theorem dX5_statement_84 : decode cX5_statement 84 = .ok (.bipush 110, 2) := by decide +kernel
theorem dX5_statement_86 : decode cX5_statement 86 = .ok (.bipush 121, 2) := by decide +kernel
theorem dX5_statement_88 : decode cX5_statement 88 = .ok (.iconst 0, 1) := by decide +kernel
theorem dX5_statement_89 : decode cX5_statement 89 = .ok (.iconst 0, 1) := by decide +kernel
theorem dX5_statement_90 : decode cX5_statement 90 = .ok (.iconst 4, 1) := by decide +kernel
theorem dX5_statement_91 : decode cX5_statement 91 = .ok (.invokevirtual 77, 3) := by decide +kernel
theorem dX5_statement_94 : decode cX5_statement 94 = .ok (.ifCond .eq 13, 3) := by decide +kernel
theorem dX5_statement_97 : decode cX5_statement 97 = .ok (.aload_n 0, 1) := by decide +kernel
theorem dX5_statement_98 : decode cX5_statement 98 = .ok (.aload_n 0, 1) := by decide +kernel
theorem dX5_statement_99 : decode cX5_statement 99 = .ok (.getfield 85, 3) := by decide +kernel
theorem dX5_statement_102 : decode cX5_statement 102 = .ok (.iconst 1, 1) := by decide +kernel
theorem dX5_statement_103 : decode cX5_statement 103 = .ok (.invokevirtual 88, 3) := by decide +kernel
theorem dX5_statement_106 : decode cX5_statement 106 = .ok (.ireturn, 1) := by decide +kernel
theorem dX5_statement_107 : decode cX5_statement 107 = .ok (.aload_n 0, 1) := by decide +kernel
theorem dX5_statement_108 : decode cX5_statement 108 = .ok (.bipush 117, 2) := by decide +kernel
theorem dX5_statement_110 : decode cX5_statement 110 = .ok (.bipush 115, 2) := by decide +kernel
theorem dX5_statement_112 : decode cX5_statement 112 = .ok (.bipush 101, 2) := by decide +kernel
theorem dX5_statement_114 : decode cX5_statement 114 = .ok (.iconst 0, 1) := by decide +kernel
theorem dX5_statement_115 : decode cX5_statement 115 = .ok (.iconst 0, 1) := by decide +kernel
theorem dX5_statement_116 : decode cX5_statement 116 = .ok (.iconst 0, 1) := by decide +kernel
theorem dX5_statement_117 : decode cX5_statement 117 = .ok (.iconst 3, 1) := by decide +kernel
theorem dX5_statement_118 : decode cX5_statement 118 = .ok (.invokevirtual 77, 3) := by decide +kernel
theorem dX5_statement_121 : decode cX5_statement 121 = .ok (.ifCond .ne 5, 3) := by decide +kernel
theorem dX5_statement_124 : decode cX5_statement 124 = .ok (.iconst 0, 1) := by decide +kernel
theorem dX5_statement_125 : decode cX5_statement 125 = .ok (.ireturn, 1) := by decide +kernel
theorem dX5_statement_126 : decode cX5_statement 126 = .ok (.aload_n 0, 1) := by decide +kernel
theorem dX5_statement_127 : decode cX5_statement 127 = .ok (.invokevirtual 91, 3) := by decide +kernel
theorem dX5_statement_130 : decode cX5_statement 130 = .ok (.istore_n 1, 1) := by decide +kernel
theorem dX5_statement_131 : decode cX5_statement 131 = .ok (.aload_n 0, 1) := by decide +kernel
theorem dX5_statement_132 : decode cX5_statement 132 = .ok (.getfield 16, 3) := by decide +kernel
theorem dX5_statement_135 : decode cX5_statement 135 = .ok (.bipush 42, 2) := by decide +kernel
theorem dX5_statement_137 : decode cX5_statement 137 = .ok (.aload_n 0, 1) := by decide +kernel
theorem dX5_statement_138 : decode cX5_statement 138 = .ok (.getfield 85, 3) := by decide +kernel
theorem dX5_statement_141 : decode cX5_statement 141 = .ok (.imul, 1) := by decide +kernel
theorem dX5_statement_142 : decode cX5_statement 142 = .ok (.iconst 1, 1) := by decide +kernel
theorem dX5_statement_143 : decode cX5_statement 143 = .ok (.iadd, 1) := by decide +kernel
theorem dX5_statement_144 : decode cX5_statement 144 = .ok (.iload_n 1, 1) := by decide +kernel
theorem dX5_statement_145 : decode cX5_statement 145 = .ok (.iastore, 1) := by decide +kernel
theorem dX5_statement_146 : decode cX5_statement 146 = .ok (.iload_n 1, 1) := by decide +kernel
theorem dX5_statement_147 : decode cX5_statement 147 = .ok (.bipush (-4), 2) := by decide +kernel
theorem dX5_statement_149 : decode cX5_statement 149 = .ok (.if_icmp .eq 7, 3) := by decide +kernel
theorem dX5_statement_152 : decode cX5_statement 152 = .ok (.iconst 1, 1) := by decide +kernel
theorem dX5_statement_153 : decode cX5_statement 153 = .ok (.goto 4, 3) := by decide +kernel
theorem dX5_statement_156 : decode cX5_statement 156 = .ok (.iconst 0, 1) := by decide +kernel
theorem dX5_statement_157 : decode cX5_statement 157 = .ok (.ireturn, 1) := by decide +kernel
theorem dX5_syntaxError_0 : decode cX5_syntaxError 0 = .ok (.aload_n 0, 1) := by decide +kernel
theorem dX5_syntaxError_1 : decode cX5_syntaxError 1 = .ok (.invokevirtual 31, 3) := by decide +kernel
theorem dX5_syntaxError_4 : decode cX5_syntaxError 4 = .ok (.aload_n 0, 1) := by decide +kernel
theorem dX5_syntaxError_5 : decode cX5_syntaxError 5 = .ok (.iconst 0, 1) := by decide +kernel
theorem dX5_syntaxError_6 : decode cX5_syntaxError 6 = .ok (.putfield 49, 3) := by decide +kernel
theorem dX5_syntaxError_9 : decode cX5_syntaxError 9 = .ok (.aload_n 0, 1) := by decide +kernel
theorem dX5_syntaxError_10 : decode cX5_syntaxError 10 = .ok (.iconst 0, 1) := by decide +kernel
theorem dX5_syntaxError_11 : decode cX5_syntaxError 11 = .ok (.putfield 85, 3) := by decide +kernel
theorem dX5_syntaxError_14 : decode cX5_syntaxError 14 = .ok (.aload_n 0, 1) := by decide +kernel
theorem dX5_syntaxError_15 : decode cX5_syntaxError 15 = .ok (.getfield 49, 3) := by decide +kernel
theorem dX5_syntaxError_18 : decode cX5_syntaxError 18 = .ok (.aload_n 0, 1) := by decide +kernel
theorem dX5_syntaxError_19 : decode cX5_syntaxError 19 = .ok (.getfield 45, 3) := by decide +kernel
theorem dX5_syntaxError_22 : decode cX5_syntaxError 22 = .ok (.if_icmp .ge 39, 3) := by decide +kernel
theorem dX5_syntaxError_25 : decode cX5_syntaxError 25 = .ok (.aload_n 0, 1) := by decide +kernel
theorem dX5_syntaxError_26 : decode cX5_syntaxError 26 = .ok (.getfield 49, 3) := by decide +kernel
theorem dX5_syntaxError_29 : decode cX5_syntaxError 29 = .ok (.istore_n 1, 1) := by decide +kernel
theorem dX5_syntaxError_30 : decode cX5_syntaxError 30 = .ok (.aload_n 0, 1) := by decide +kernel
theorem dX5_syntaxError_31 : decode cX5_syntaxError 31 = .ok (.invokevirtual 94, 3) := by decide +kernel
theorem dX5_syntaxError_34 : decode cX5_syntaxError 34 = .ok (.ifCond .eq 12, 3) := by decide +kernel
theorem dX5_syntaxError_37 : decode cX5_syntaxError 37 = .ok (.aload_n 0, 1) := by decide +kernel
theorem dX5_syntaxError_38 : decode cX5_syntaxError 38 = .ok (.invokevirtual 59, 3) := by decide +kernel
theorem dX5_syntaxError_41 : decode cX5_syntaxError 41 = .ok (.bipush 59, 2) := by decide +kernel
theorem dX5_syntaxError_43 : decode cX5_syntaxError 43 = .ok (.if_icmp .eq 5, 3) := by decide +kernel
theorem dX5_syntaxError_46 : decode cX5_syntaxError 46 = .ok (.iload_n 1, 1) := by decide +kernel
theorem dX5_syntaxError_47 : decode cX5_syntaxError 47 = .ok (.ireturn, 1) := by decide +kernel
theorem dX5_syntaxError_48 : decode cX5_syntaxError 48 = .ok (.aload_n 0, 1) := by decide +kernel
theorem dX5_syntaxError_49 : decode cX5_syntaxError 49 = .ok (.dup, 1) := by decide +kernel
theorem dX5_syntaxError_50 : decode cX5_syntaxError 50 = .ok (.getfield 49, 3) := by decide +kernel
theorem dX5_syntaxError_53 : decode cX5_syntaxError 53 = .ok (.iconst 1, 1) := by decide +kernel
theorem dX5_syntaxError_54 : decode cX5_syntaxError 54 = .ok (.iadd, 1) := by decide +kernel
theorem dX5_syntaxError_55 : decode cX5_syntaxError 55 = .ok (.putfield 49, 3) := by decide +kernel
theorem dX5_syntaxError_58 : decode cX5_syntaxError 58 = .ok (.goto (-44), 3) := by decide +kernel
theorem dX5_syntaxError_61 : decode cX5_syntaxError 61 = .ok (.bipush (-4), 2) := by decide +kernel
theorem dX5_syntaxError_63 : decode cX5_syntaxError 63 = .ok (.ireturn, 1) := by decide +kernel
theorem dX5_load_0 : decode cX5_load 0 = .ok (.aload_n 0, 1) := by decide +kernel
theorem dX5_load_1 : decode cX5_load 1 = .ok (.invokevirtual 98, 3) := by decide +kernel
theorem dX5_load_4 : decode cX5_load 4 = .ok (.bipush (-4), 2) := by decide +kernel
theorem dX5_load_6 : decode cX5_load 6 = .ok (.if_icmp .eq 6, 3) := by decide +kernel
theorem dX5_load_9 : decode cX5_load 9 = .ok (.bipush (-3), 2) := by decide +kernel
theorem dX5_load_11 : decode cX5_load 11 = .ok (.ireturn, 1) := by decide +kernel
theorem dX5_load_12 : decode cX5_load 12 = .ok (.aload_n 0, 1) := by decide +kernel
theorem dX5_load_13 : decode cX5_load 13 = .ok (.invokevirtual 38, 3) := by decide +kernel
theorem dX5_load_16 : decode cX5_load 16 = .ok (.aload_n 0, 1) := by decide +kernel
theorem dX5_load_17 : decode cX5_load 17 = .ok (.getfield 13, 3) := by decide +kernel
theorem dX5_load_20 : decode cX5_load 20 = .ok (.iconst 0, 1) := by decide +kernel
theorem dX5_load_21 : decode cX5_load 21 = .ok (.iaload, 1) := by decide +kernel
theorem dX5_load_22 : decode cX5_load 22 = .ok (.aload_n 0, 1) := by decide +kernel
theorem dX5_load_23 : decode cX5_load 23 = .ok (.getfield 13, 3) := by decide +kernel
theorem dX5_load_26 : decode cX5_load 26 = .ok (.bipush 42, 2) := by decide +kernel
theorem dX5_load_28 : decode cX5_load 28 = .ok (.iaload, 1) := by decide +kernel
theorem dX5_load_29 : decode cX5_load 29 = .ok (.iadd, 1) := by decide +kernel
theorem dX5_load_30 : decode cX5_load 30 = .ok (.ireturn, 1) := by decide +kernel
theorem dX5_edit_0 : decode cX5_edit 0 = .ok (.aload_n 0, 1) := by decide +kernel
theorem dX5_edit_1 : decode cX5_edit 1 = .ok (.getfield 56, 3) := by decide +kernel
theorem dX5_edit_4 : decode cX5_edit 4 = .ok (.iconst 4, 1) := by decide +kernel
theorem dX5_edit_5 : decode cX5_edit 5 = .ok (.if_icmp .ne 43, 3) := by decide +kernel
theorem dX5_edit_8 : decode cX5_edit 8 = .ok (.iconst 0, 1) := by decide +kernel
theorem dX5_edit_9 : decode cX5_edit 9 = .ok (.istore_n 1, 1) := by decide +kernel
theorem dX5_edit_10 : decode cX5_edit 10 = .ok (.iload_n 1, 1) := by decide +kernel
theorem dX5_edit_11 : decode cX5_edit 11 = .ok (.sipush 252, 3) := by decide +kernel
theorem dX5_edit_14 : decode cX5_edit 14 = .ok (.if_icmp .ge 24, 3) := by decide +kernel
theorem dX5_edit_17 : decode cX5_edit 17 = .ok (.aload_n 0, 1) := by decide +kernel
theorem dX5_edit_18 : decode cX5_edit 18 = .ok (.getfield 19, 3) := by decide +kernel
theorem dX5_edit_21 : decode cX5_edit 21 = .ok (.iload_n 1, 1) := by decide +kernel
theorem dX5_edit_22 : decode cX5_edit 22 = .ok (.aload_n 0, 1) := by decide +kernel
theorem dX5_edit_23 : decode cX5_edit 23 = .ok (.getfield 19, 3) := by decide +kernel
theorem dX5_edit_26 : decode cX5_edit 26 = .ok (.iload_n 1, 1) := by decide +kernel
theorem dX5_edit_27 : decode cX5_edit 27 = .ok (.bipush 84, 2) := by decide +kernel
theorem dX5_edit_29 : decode cX5_edit 29 = .ok (.iadd, 1) := by decide +kernel
theorem dX5_edit_30 : decode cX5_edit 30 = .ok (.iaload, 1) := by decide +kernel
theorem dX5_edit_31 : decode cX5_edit 31 = .ok (.iastore, 1) := by decide +kernel
theorem dX5_edit_32 : decode cX5_edit 32 = .ok (.iinc 1 1, 3) := by decide +kernel
theorem dX5_edit_35 : decode cX5_edit 35 = .ok (.goto (-25), 3) := by decide +kernel
theorem dX5_edit_38 : decode cX5_edit 38 = .ok (.aload_n 0, 1) := by decide +kernel
theorem dX5_edit_39 : decode cX5_edit 39 = .ok (.dup, 1) := by decide +kernel
theorem dX5_edit_40 : decode cX5_edit 40 = .ok (.getfield 56, 3) := by decide +kernel
theorem dX5_edit_43 : decode cX5_edit 43 = .ok (.iconst 1, 1) := by decide +kernel
theorem dX5_edit_44 : decode cX5_edit 44 = .ok (.isub, 1) := by decide +kernel
theorem dX5_edit_45 : decode cX5_edit 45 = .ok (.putfield 56, 3) := by decide +kernel
theorem dX5_edit_48 : decode cX5_edit 48 = .ok (.iconst 0, 1) := by decide +kernel
theorem dX5_edit_49 : decode cX5_edit 49 = .ok (.istore_n 1, 1) := by decide +kernel
theorem dX5_edit_50 : decode cX5_edit 50 = .ok (.iload_n 1, 1) := by decide +kernel
theorem dX5_edit_51 : decode cX5_edit 51 = .ok (.bipush 84, 2) := by decide +kernel
theorem dX5_edit_53 : decode cX5_edit 53 = .ok (.if_icmp .ge 29, 3) := by decide +kernel
theorem dX5_edit_56 : decode cX5_edit 56 = .ok (.aload_n 0, 1) := by decide +kernel
theorem dX5_edit_57 : decode cX5_edit 57 = .ok (.getfield 19, 3) := by decide +kernel
theorem dX5_edit_60 : decode cX5_edit 60 = .ok (.bipush 84, 2) := by decide +kernel
theorem dX5_edit_62 : decode cX5_edit 62 = .ok (.aload_n 0, 1) := by decide +kernel
theorem dX5_edit_63 : decode cX5_edit 63 = .ok (.getfield 56, 3) := by decide +kernel
theorem dX5_edit_66 : decode cX5_edit 66 = .ok (.imul, 1) := by decide +kernel
theorem dX5_edit_67 : decode cX5_edit 67 = .ok (.iload_n 1, 1) := by decide +kernel
theorem dX5_edit_68 : decode cX5_edit 68 = .ok (.iadd, 1) := by decide +kernel
theorem dX5_edit_69 : decode cX5_edit 69 = .ok (.aload_n 0, 1) := by decide +kernel
theorem dX5_edit_70 : decode cX5_edit 70 = .ok (.getfield 13, 3) := by decide +kernel
theorem dX5_edit_73 : decode cX5_edit 73 = .ok (.iload_n 1, 1) := by decide +kernel
theorem dX5_edit_74 : decode cX5_edit 74 = .ok (.iaload, 1) := by decide +kernel
theorem dX5_edit_75 : decode cX5_edit 75 = .ok (.iastore, 1) := by decide +kernel
theorem dX5_edit_76 : decode cX5_edit 76 = .ok (.iinc 1 1, 3) := by decide +kernel
theorem dX5_edit_79 : decode cX5_edit 79 = .ok (.goto (-29), 3) := by decide +kernel
theorem dX5_edit_82 : decode cX5_edit 82 = .ok (.aload_n 0, 1) := by decide +kernel
theorem dX5_edit_83 : decode cX5_edit 83 = .ok (.dup, 1) := by decide +kernel
theorem dX5_edit_84 : decode cX5_edit 84 = .ok (.getfield 56, 3) := by decide +kernel
theorem dX5_edit_87 : decode cX5_edit 87 = .ok (.iconst 1, 1) := by decide +kernel
theorem dX5_edit_88 : decode cX5_edit 88 = .ok (.iadd, 1) := by decide +kernel
theorem dX5_edit_89 : decode cX5_edit 89 = .ok (.putfield 56, 3) := by decide +kernel
theorem dX5_edit_92 : decode cX5_edit 92 = .ok (.return_, 1) := by decide +kernel
theorem dX5_undo_0 : decode cX5_undo 0 = .ok (.aload_n 0, 1) := by decide +kernel
theorem dX5_undo_1 : decode cX5_undo 1 = .ok (.getfield 56, 3) := by decide +kernel
theorem dX5_undo_4 : decode cX5_undo 4 = .ok (.ifCond .ne 6, 3) := by decide +kernel
theorem dX5_undo_7 : decode cX5_undo 7 = .ok (.bipush (-3), 2) := by decide +kernel
theorem dX5_undo_9 : decode cX5_undo 9 = .ok (.ireturn, 1) := by decide +kernel
theorem dX5_undo_10 : decode cX5_undo 10 = .ok (.aload_n 0, 1) := by decide +kernel
theorem dX5_undo_11 : decode cX5_undo 11 = .ok (.dup, 1) := by decide +kernel
theorem dX5_undo_12 : decode cX5_undo 12 = .ok (.getfield 56, 3) := by decide +kernel
theorem dX5_undo_15 : decode cX5_undo 15 = .ok (.iconst 1, 1) := by decide +kernel
theorem dX5_undo_16 : decode cX5_undo 16 = .ok (.isub, 1) := by decide +kernel
theorem dX5_undo_17 : decode cX5_undo 17 = .ok (.putfield 56, 3) := by decide +kernel
theorem dX5_undo_20 : decode cX5_undo 20 = .ok (.iconst 0, 1) := by decide +kernel
theorem dX5_undo_21 : decode cX5_undo 21 = .ok (.istore_n 1, 1) := by decide +kernel
theorem dX5_undo_22 : decode cX5_undo 22 = .ok (.iload_n 1, 1) := by decide +kernel
theorem dX5_undo_23 : decode cX5_undo 23 = .ok (.bipush 84, 2) := by decide +kernel
theorem dX5_undo_25 : decode cX5_undo 25 = .ok (.if_icmp .ge 29, 3) := by decide +kernel
theorem dX5_undo_28 : decode cX5_undo 28 = .ok (.aload_n 0, 1) := by decide +kernel
theorem dX5_undo_29 : decode cX5_undo 29 = .ok (.getfield 13, 3) := by decide +kernel
theorem dX5_undo_32 : decode cX5_undo 32 = .ok (.iload_n 1, 1) := by decide +kernel
theorem dX5_undo_33 : decode cX5_undo 33 = .ok (.aload_n 0, 1) := by decide +kernel
theorem dX5_undo_34 : decode cX5_undo 34 = .ok (.getfield 19, 3) := by decide +kernel
theorem dX5_undo_37 : decode cX5_undo 37 = .ok (.bipush 84, 2) := by decide +kernel
theorem dX5_undo_39 : decode cX5_undo 39 = .ok (.aload_n 0, 1) := by decide +kernel
theorem dX5_undo_40 : decode cX5_undo 40 = .ok (.getfield 56, 3) := by decide +kernel
theorem dX5_undo_43 : decode cX5_undo 43 = .ok (.imul, 1) := by decide +kernel
theorem dX5_undo_44 : decode cX5_undo 44 = .ok (.iload_n 1, 1) := by decide +kernel
theorem dX5_undo_45 : decode cX5_undo 45 = .ok (.iadd, 1) := by decide +kernel
theorem dX5_undo_46 : decode cX5_undo 46 = .ok (.iaload, 1) := by decide +kernel
theorem dX5_undo_47 : decode cX5_undo 47 = .ok (.iastore, 1) := by decide +kernel
theorem dX5_undo_48 : decode cX5_undo 48 = .ok (.iinc 1 1, 3) := by decide +kernel
theorem dX5_undo_51 : decode cX5_undo 51 = .ok (.goto (-29), 3) := by decide +kernel
theorem dX5_undo_54 : decode cX5_undo 54 = .ok (.aload_n 0, 1) := by decide +kernel
theorem dX5_undo_55 : decode cX5_undo 55 = .ok (.getfield 56, 3) := by decide +kernel
theorem dX5_undo_58 : decode cX5_undo 58 = .ok (.ireturn, 1) := by decide +kernel
theorem dX5_isPolicy_0 : decode cX5_isPolicy 0 = .ok (.iload_n 0, 1) := by decide +kernel
theorem dX5_isPolicy_1 : decode cX5_isPolicy 1 = .ok (.iconst 0, 1) := by decide +kernel
theorem dX5_isPolicy_2 : decode cX5_isPolicy 2 = .ok (.iconst 1, 1) := by decide +kernel
theorem dX5_isPolicy_3 : decode cX5_isPolicy 3 = .ok (.invokestatic 41, 3) := by decide +kernel
theorem dX5_isPolicy_6 : decode cX5_isPolicy 6 = .ok (.ireturn, 1) := by decide +kernel
theorem dX5_isRule_0 : decode cX5_isRule 0 = .ok (.iload_n 1, 1) := by decide +kernel
theorem dX5_isRule_1 : decode cX5_isRule 1 = .ok (.invokestatic 101, 3) := by decide +kernel
theorem dX5_isRule_4 : decode cX5_isRule 4 = .ok (.ifCond .eq 26, 3) := by decide +kernel
theorem dX5_isRule_7 : decode cX5_isRule 7 = .ok (.iload_n 2, 1) := by decide +kernel
theorem dX5_isRule_8 : decode cX5_isRule 8 = .ok (.iconst 0, 1) := by decide +kernel
theorem dX5_isRule_9 : decode cX5_isRule 9 = .ok (.aload_n 0, 1) := by decide +kernel
theorem dX5_isRule_10 : decode cX5_isRule 10 = .ok (.getfield 13, 3) := by decide +kernel
theorem dX5_isRule_13 : decode cX5_isRule 13 = .ok (.bipush 42, 2) := by decide +kernel
theorem dX5_isRule_15 : decode cX5_isRule 15 = .ok (.iload_n 1, 1) := by decide +kernel
theorem dX5_isRule_16 : decode cX5_isRule 16 = .ok (.imul, 1) := by decide +kernel
theorem dX5_isRule_17 : decode cX5_isRule 17 = .ok (.iaload, 1) := by decide +kernel
theorem dX5_isRule_18 : decode cX5_isRule 18 = .ok (.iconst 1, 1) := by decide +kernel
theorem dX5_isRule_19 : decode cX5_isRule 19 = .ok (.isub, 1) := by decide +kernel
theorem dX5_isRule_20 : decode cX5_isRule 20 = .ok (.invokestatic 41, 3) := by decide +kernel
theorem dX5_isRule_23 : decode cX5_isRule 23 = .ok (.ifCond .eq 7, 3) := by decide +kernel
theorem dX5_isRule_26 : decode cX5_isRule 26 = .ok (.iconst 1, 1) := by decide +kernel
theorem dX5_isRule_27 : decode cX5_isRule 27 = .ok (.goto 4, 3) := by decide +kernel
theorem dX5_isRule_30 : decode cX5_isRule 30 = .ok (.iconst 0, 1) := by decide +kernel
theorem dX5_isRule_31 : decode cX5_isRule 31 = .ok (.ireturn, 1) := by decide +kernel
theorem dX5_copies_0 : decode cX5_copies 0 = .ok (.bipush 42, 2) := by decide +kernel
theorem dX5_copies_2 : decode cX5_copies 2 = .ok (.iload_n 1, 1) := by decide +kernel
theorem dX5_copies_3 : decode cX5_copies 3 = .ok (.imul, 1) := by decide +kernel
theorem dX5_copies_4 : decode cX5_copies 4 = .ok (.iconst 2, 1) := by decide +kernel
theorem dX5_copies_5 : decode cX5_copies 5 = .ok (.iadd, 1) := by decide +kernel
theorem dX5_copies_6 : decode cX5_copies 6 = .ok (.istore 4, 2) := by decide +kernel
theorem dX5_copies_8 : decode cX5_copies 8 = .ok (.iconst 0, 1) := by decide +kernel
theorem dX5_copies_9 : decode cX5_copies 9 = .ok (.istore 5, 2) := by decide +kernel
theorem dX5_copies_11 : decode cX5_copies 11 = .ok (.iload 5, 2) := by decide +kernel
theorem dX5_copies_13 : decode cX5_copies 13 = .ok (.iconst 5, 1) := by decide +kernel
theorem dX5_copies_14 : decode cX5_copies 14 = .ok (.if_icmp .ge 37, 3) := by decide +kernel
theorem dX5_copies_17 : decode cX5_copies 17 = .ok (.aload_n 0, 1) := by decide +kernel
theorem dX5_copies_18 : decode cX5_copies 18 = .ok (.getfield 13, 3) := by decide +kernel
theorem dX5_copies_21 : decode cX5_copies 21 = .ok (.iload 4, 2) := by decide +kernel
theorem dX5_copies_23 : decode cX5_copies 23 = .ok (.iconst 5, 1) := by decide +kernel
theorem dX5_copies_24 : decode cX5_copies 24 = .ok (.iload_n 3, 1) := by decide +kernel
theorem dX5_copies_25 : decode cX5_copies 25 = .ok (.imul, 1) := by decide +kernel
theorem dX5_copies_26 : decode cX5_copies 26 = .ok (.iadd, 1) := by decide +kernel
theorem dX5_copies_27 : decode cX5_copies 27 = .ok (.iload 5, 2) := by decide +kernel
theorem dX5_copies_29 : decode cX5_copies 29 = .ok (.iadd, 1) := by decide +kernel
theorem dX5_copies_30 : decode cX5_copies 30 = .ok (.aload_n 0, 1) := by decide +kernel
theorem dX5_copies_31 : decode cX5_copies 31 = .ok (.getfield 13, 3) := by decide +kernel
theorem dX5_copies_34 : decode cX5_copies 34 = .ok (.iload 4, 2) := by decide +kernel
theorem dX5_copies_36 : decode cX5_copies 36 = .ok (.iconst 5, 1) := by decide +kernel
theorem dX5_copies_37 : decode cX5_copies 37 = .ok (.iload_n 2, 1) := by decide +kernel
theorem dX5_copies_38 : decode cX5_copies 38 = .ok (.imul, 1) := by decide +kernel
theorem dX5_copies_39 : decode cX5_copies 39 = .ok (.iadd, 1) := by decide +kernel
theorem dX5_copies_40 : decode cX5_copies 40 = .ok (.iload 5, 2) := by decide +kernel
theorem dX5_copies_42 : decode cX5_copies 42 = .ok (.iadd, 1) := by decide +kernel
theorem dX5_copies_43 : decode cX5_copies 43 = .ok (.iaload, 1) := by decide +kernel
theorem dX5_copies_44 : decode cX5_copies 44 = .ok (.iastore, 1) := by decide +kernel
theorem dX5_copies_45 : decode cX5_copies 45 = .ok (.iinc 5 1, 3) := by decide +kernel
theorem dX5_copies_48 : decode cX5_copies 48 = .ok (.goto (-37), 3) := by decide +kernel
theorem dX5_copies_51 : decode cX5_copies 51 = .ok (.return_, 1) := by decide +kernel
theorem dX5_addRule_0 : decode cX5_addRule 0 = .ok (.iload_n 1, 1) := by decide +kernel
theorem dX5_addRule_1 : decode cX5_addRule 1 = .ok (.invokestatic 101, 3) := by decide +kernel
theorem dX5_addRule_4 : decode cX5_addRule 4 = .ok (.ifCond .eq 29, 3) := by decide +kernel
theorem dX5_addRule_7 : decode cX5_addRule 7 = .ok (.iload_n 2, 1) := by decide +kernel
theorem dX5_addRule_8 : decode cX5_addRule 8 = .ok (.iconst 0, 1) := by decide +kernel
theorem dX5_addRule_9 : decode cX5_addRule 9 = .ok (.aload_n 0, 1) := by decide +kernel
theorem dX5_addRule_10 : decode cX5_addRule 10 = .ok (.getfield 13, 3) := by decide +kernel
theorem dX5_addRule_13 : decode cX5_addRule 13 = .ok (.bipush 42, 2) := by decide +kernel
theorem dX5_addRule_15 : decode cX5_addRule 15 = .ok (.iload_n 1, 1) := by decide +kernel
theorem dX5_addRule_16 : decode cX5_addRule 16 = .ok (.imul, 1) := by decide +kernel
theorem dX5_addRule_17 : decode cX5_addRule 17 = .ok (.iaload, 1) := by decide +kernel
theorem dX5_addRule_18 : decode cX5_addRule 18 = .ok (.invokestatic 41, 3) := by decide +kernel
theorem dX5_addRule_21 : decode cX5_addRule 21 = .ok (.ifCond .eq 12, 3) := by decide +kernel
theorem dX5_addRule_24 : decode cX5_addRule 24 = .ok (.iload_n 3, 1) := by decide +kernel
theorem dX5_addRule_25 : decode cX5_addRule 25 = .ok (.iconst 0, 1) := by decide +kernel
theorem dX5_addRule_26 : decode cX5_addRule 26 = .ok (.iconst 1, 1) := by decide +kernel
theorem dX5_addRule_27 : decode cX5_addRule 27 = .ok (.invokestatic 41, 3) := by decide +kernel
theorem dX5_addRule_30 : decode cX5_addRule 30 = .ok (.ifCond .ne 5, 3) := by decide +kernel
theorem dX5_addRule_33 : decode cX5_addRule 33 = .ok (.iconst (-1), 1) := by decide +kernel
theorem dX5_addRule_34 : decode cX5_addRule 34 = .ok (.ireturn, 1) := by decide +kernel
theorem dX5_addRule_35 : decode cX5_addRule 35 = .ok (.aload_n 0, 1) := by decide +kernel
theorem dX5_addRule_36 : decode cX5_addRule 36 = .ok (.getfield 13, 3) := by decide +kernel
theorem dX5_addRule_39 : decode cX5_addRule 39 = .ok (.bipush 42, 2) := by decide +kernel
theorem dX5_addRule_41 : decode cX5_addRule 41 = .ok (.iload_n 1, 1) := by decide +kernel
theorem dX5_addRule_42 : decode cX5_addRule 42 = .ok (.imul, 1) := by decide +kernel
theorem dX5_addRule_43 : decode cX5_addRule 43 = .ok (.iaload, 1) := by decide +kernel
theorem dX5_addRule_44 : decode cX5_addRule 44 = .ok (.bipush 8, 2) := by decide +kernel
theorem dX5_addRule_46 : decode cX5_addRule 46 = .ok (.if_icmp .ne 6, 3) := by decide +kernel
theorem dX5_addRule_49 : decode cX5_addRule 49 = .ok (.bipush (-2), 2) := by decide +kernel
theorem dX5_addRule_51 : decode cX5_addRule 51 = .ok (.ireturn, 1) := by decide +kernel
theorem dX5_addRule_52 : decode cX5_addRule 52 = .ok (.aload_n 0, 1) := by decide +kernel
theorem dX5_addRule_53 : decode cX5_addRule 53 = .ok (.invokevirtual 104, 3) := by decide +kernel
theorem dX5_addRule_56 : decode cX5_addRule 56 = .ok (.aload_n 0, 1) := by decide +kernel
theorem dX5_addRule_57 : decode cX5_addRule 57 = .ok (.getfield 13, 3) := by decide +kernel
end
section
theorem dX5_addRule_60 : decode cX5_addRule 60 = .ok (.bipush 42, 2) := by decide +kernel
theorem dX5_addRule_62 : decode cX5_addRule 62 = .ok (.iload_n 1, 1) := by decide +kernel
theorem dX5_addRule_63 : decode cX5_addRule 63 = .ok (.imul, 1) := by decide +kernel
theorem dX5_addRule_64 : decode cX5_addRule 64 = .ok (.iaload, 1) := by decide +kernel
theorem dX5_addRule_65 : decode cX5_addRule 65 = .ok (.istore 4, 2) := by decide +kernel
theorem dX5_addRule_67 : decode cX5_addRule 67 = .ok (.iload 4, 2) := by decide +kernel
theorem dX5_addRule_69 : decode cX5_addRule 69 = .ok (.iload_n 2, 1) := by decide +kernel
theorem dX5_addRule_70 : decode cX5_addRule 70 = .ok (.if_icmp .le 20, 3) := by decide +kernel
theorem dX5_addRule_73 : decode cX5_addRule 73 = .ok (.aload_n 0, 1) := by decide +kernel
theorem dX5_addRule_74 : decode cX5_addRule 74 = .ok (.iload_n 1, 1) := by decide +kernel
theorem dX5_addRule_75 : decode cX5_addRule 75 = .ok (.iload 4, 2) := by decide +kernel
theorem dX5_addRule_77 : decode cX5_addRule 77 = .ok (.iconst 1, 1) := by decide +kernel
theorem dX5_addRule_78 : decode cX5_addRule 78 = .ok (.isub, 1) := by decide +kernel
theorem dX5_addRule_79 : decode cX5_addRule 79 = .ok (.iload 4, 2) := by decide +kernel
theorem dX5_addRule_81 : decode cX5_addRule 81 = .ok (.invokevirtual 107, 3) := by decide +kernel
theorem dX5_addRule_84 : decode cX5_addRule 84 = .ok (.iinc 4 (-1), 3) := by decide +kernel
theorem dX5_addRule_87 : decode cX5_addRule 87 = .ok (.goto (-20), 3) := by decide +kernel
theorem dX5_addRule_90 : decode cX5_addRule 90 = .ok (.bipush 42, 2) := by decide +kernel
theorem dX5_addRule_92 : decode cX5_addRule 92 = .ok (.iload_n 1, 1) := by decide +kernel
theorem dX5_addRule_93 : decode cX5_addRule 93 = .ok (.imul, 1) := by decide +kernel
theorem dX5_addRule_94 : decode cX5_addRule 94 = .ok (.iconst 2, 1) := by decide +kernel
theorem dX5_addRule_95 : decode cX5_addRule 95 = .ok (.iadd, 1) := by decide +kernel
theorem dX5_addRule_96 : decode cX5_addRule 96 = .ok (.iconst 5, 1) := by decide +kernel
theorem dX5_addRule_97 : decode cX5_addRule 97 = .ok (.iload_n 2, 1) := by decide +kernel
theorem dX5_addRule_98 : decode cX5_addRule 98 = .ok (.imul, 1) := by decide +kernel
theorem dX5_addRule_99 : decode cX5_addRule 99 = .ok (.iadd, 1) := by decide +kernel
theorem dX5_addRule_100 : decode cX5_addRule 100 = .ok (.istore 4, 2) := by decide +kernel
theorem dX5_addRule_102 : decode cX5_addRule 102 = .ok (.aload_n 0, 1) := by decide +kernel
theorem dX5_addRule_103 : decode cX5_addRule 103 = .ok (.getfield 13, 3) := by decide +kernel
theorem dX5_addRule_106 : decode cX5_addRule 106 = .ok (.iload 4, 2) := by decide +kernel
theorem dX5_addRule_108 : decode cX5_addRule 108 = .ok (.iload_n 3, 1) := by decide +kernel
theorem dX5_addRule_109 : decode cX5_addRule 109 = .ok (.iastore, 1) := by decide +kernel
theorem dX5_addRule_110 : decode cX5_addRule 110 = .ok (.iconst 0, 1) := by decide +kernel
theorem dX5_addRule_111 : decode cX5_addRule 111 = .ok (.istore 5, 2) := by decide +kernel
theorem dX5_addRule_113 : decode cX5_addRule 113 = .ok (.iload 5, 2) := by decide +kernel
theorem dX5_addRule_115 : decode cX5_addRule 115 = .ok (.iconst 4, 1) := by decide +kernel
theorem dX5_addRule_116 : decode cX5_addRule 116 = .ok (.if_icmp .ge 30, 3) := by decide +kernel
theorem dX5_addRule_119 : decode cX5_addRule 119 = .ok (.aload_n 0, 1) := by decide +kernel
theorem dX5_addRule_120 : decode cX5_addRule 120 = .ok (.getfield 13, 3) := by decide +kernel
theorem dX5_addRule_123 : decode cX5_addRule 123 = .ok (.iload 4, 2) := by decide +kernel
theorem dX5_addRule_125 : decode cX5_addRule 125 = .ok (.iconst 1, 1) := by decide +kernel
theorem dX5_addRule_126 : decode cX5_addRule 126 = .ok (.iadd, 1) := by decide +kernel
theorem dX5_addRule_127 : decode cX5_addRule 127 = .ok (.iload 5, 2) := by decide +kernel
theorem dX5_addRule_129 : decode cX5_addRule 129 = .ok (.iadd, 1) := by decide +kernel
theorem dX5_addRule_130 : decode cX5_addRule 130 = .ok (.iconst 1, 1) := by decide +kernel
theorem dX5_addRule_131 : decode cX5_addRule 131 = .ok (.iload 5, 2) := by decide +kernel
theorem dX5_addRule_133 : decode cX5_addRule 133 = .ok (.invokestatic 70, 3) := by decide +kernel
theorem dX5_addRule_136 : decode cX5_addRule 136 = .ok (.ishl, 1) := by decide +kernel
theorem dX5_addRule_137 : decode cX5_addRule 137 = .ok (.iconst 1, 1) := by decide +kernel
theorem dX5_addRule_138 : decode cX5_addRule 138 = .ok (.isub, 1) := by decide +kernel
theorem dX5_addRule_139 : decode cX5_addRule 139 = .ok (.iastore, 1) := by decide +kernel
theorem dX5_addRule_140 : decode cX5_addRule 140 = .ok (.iinc 5 1, 3) := by decide +kernel
theorem dX5_addRule_143 : decode cX5_addRule 143 = .ok (.goto (-30), 3) := by decide +kernel
theorem dX5_addRule_146 : decode cX5_addRule 146 = .ok (.aload_n 0, 1) := by decide +kernel
theorem dX5_addRule_147 : decode cX5_addRule 147 = .ok (.getfield 13, 3) := by decide +kernel
theorem dX5_addRule_150 : decode cX5_addRule 150 = .ok (.bipush 42, 2) := by decide +kernel
theorem dX5_addRule_152 : decode cX5_addRule 152 = .ok (.iload_n 1, 1) := by decide +kernel
theorem dX5_addRule_153 : decode cX5_addRule 153 = .ok (.imul, 1) := by decide +kernel
theorem dX5_addRule_154 : decode cX5_addRule 154 = .ok (.dup2, 1) := by decide +kernel
theorem dX5_addRule_155 : decode cX5_addRule 155 = .ok (.iaload, 1) := by decide +kernel
theorem dX5_addRule_156 : decode cX5_addRule 156 = .ok (.iconst 1, 1) := by decide +kernel
theorem dX5_addRule_157 : decode cX5_addRule 157 = .ok (.iadd, 1) := by decide +kernel
theorem dX5_addRule_158 : decode cX5_addRule 158 = .ok (.iastore, 1) := by decide +kernel
theorem dX5_addRule_159 : decode cX5_addRule 159 = .ok (.aload_n 0, 1) := by decide +kernel
theorem dX5_addRule_160 : decode cX5_addRule 160 = .ok (.getfield 13, 3) := by decide +kernel
theorem dX5_addRule_163 : decode cX5_addRule 163 = .ok (.bipush 42, 2) := by decide +kernel
theorem dX5_addRule_165 : decode cX5_addRule 165 = .ok (.iload_n 1, 1) := by decide +kernel
theorem dX5_addRule_166 : decode cX5_addRule 166 = .ok (.imul, 1) := by decide +kernel
theorem dX5_addRule_167 : decode cX5_addRule 167 = .ok (.iaload, 1) := by decide +kernel
theorem dX5_addRule_168 : decode cX5_addRule 168 = .ok (.ireturn, 1) := by decide +kernel
theorem dX5_removes_0 : decode cX5_removes 0 = .ok (.aload_n 0, 1) := by decide +kernel
theorem dX5_removes_1 : decode cX5_removes 1 = .ok (.getfield 13, 3) := by decide +kernel
theorem dX5_removes_4 : decode cX5_removes 4 = .ok (.bipush 42, 2) := by decide +kernel
theorem dX5_removes_6 : decode cX5_removes 6 = .ok (.iload_n 1, 1) := by decide +kernel
theorem dX5_removes_7 : decode cX5_removes 7 = .ok (.imul, 1) := by decide +kernel
theorem dX5_removes_8 : decode cX5_removes 8 = .ok (.dup2, 1) := by decide +kernel
theorem dX5_removes_9 : decode cX5_removes 9 = .ok (.iaload, 1) := by decide +kernel
theorem dX5_removes_10 : decode cX5_removes 10 = .ok (.iconst 1, 1) := by decide +kernel
theorem dX5_removes_11 : decode cX5_removes 11 = .ok (.isub, 1) := by decide +kernel
theorem dX5_removes_12 : decode cX5_removes 12 = .ok (.iastore, 1) := by decide +kernel
theorem dX5_removes_13 : decode cX5_removes 13 = .ok (.iload_n 2, 1) := by decide +kernel
theorem dX5_removes_14 : decode cX5_removes 14 = .ok (.istore_n 3, 1) := by decide +kernel
theorem dX5_removes_15 : decode cX5_removes 15 = .ok (.iload_n 3, 1) := by decide +kernel
theorem dX5_removes_16 : decode cX5_removes 16 = .ok (.aload_n 0, 1) := by decide +kernel
theorem dX5_removes_17 : decode cX5_removes 17 = .ok (.getfield 13, 3) := by decide +kernel
theorem dX5_removes_20 : decode cX5_removes 20 = .ok (.bipush 42, 2) := by decide +kernel
theorem dX5_removes_22 : decode cX5_removes 22 = .ok (.iload_n 1, 1) := by decide +kernel
theorem dX5_removes_23 : decode cX5_removes 23 = .ok (.imul, 1) := by decide +kernel
theorem dX5_removes_24 : decode cX5_removes 24 = .ok (.iaload, 1) := by decide +kernel
theorem dX5_removes_25 : decode cX5_removes 25 = .ok (.if_icmp .ge 18, 3) := by decide +kernel
theorem dX5_removes_28 : decode cX5_removes 28 = .ok (.aload_n 0, 1) := by decide +kernel
theorem dX5_removes_29 : decode cX5_removes 29 = .ok (.iload_n 1, 1) := by decide +kernel
theorem dX5_removes_30 : decode cX5_removes 30 = .ok (.iload_n 3, 1) := by decide +kernel
theorem dX5_removes_31 : decode cX5_removes 31 = .ok (.iconst 1, 1) := by decide +kernel
theorem dX5_removes_32 : decode cX5_removes 32 = .ok (.iadd, 1) := by decide +kernel
theorem dX5_removes_33 : decode cX5_removes 33 = .ok (.iload_n 3, 1) := by decide +kernel
theorem dX5_removes_34 : decode cX5_removes 34 = .ok (.invokevirtual 107, 3) := by decide +kernel
theorem dX5_removes_37 : decode cX5_removes 37 = .ok (.iinc 3 1, 3) := by decide +kernel
theorem dX5_removes_40 : decode cX5_removes 40 = .ok (.goto (-25), 3) := by decide +kernel
theorem dX5_removes_43 : decode cX5_removes 43 = .ok (.return_, 1) := by decide +kernel
theorem dX5_removeRule_0 : decode cX5_removeRule 0 = .ok (.aload_n 0, 1) := by decide +kernel
theorem dX5_removeRule_1 : decode cX5_removeRule 1 = .ok (.iload_n 1, 1) := by decide +kernel
theorem dX5_removeRule_2 : decode cX5_removeRule 2 = .ok (.iload_n 2, 1) := by decide +kernel
theorem dX5_removeRule_3 : decode cX5_removeRule 3 = .ok (.invokevirtual 111, 3) := by decide +kernel
theorem dX5_removeRule_6 : decode cX5_removeRule 6 = .ok (.ifCond .ne 5, 3) := by decide +kernel
theorem dX5_removeRule_9 : decode cX5_removeRule 9 = .ok (.iconst (-1), 1) := by decide +kernel
theorem dX5_removeRule_10 : decode cX5_removeRule 10 = .ok (.ireturn, 1) := by decide +kernel
theorem dX5_removeRule_11 : decode cX5_removeRule 11 = .ok (.aload_n 0, 1) := by decide +kernel
theorem dX5_removeRule_12 : decode cX5_removeRule 12 = .ok (.invokevirtual 104, 3) := by decide +kernel
theorem dX5_removeRule_15 : decode cX5_removeRule 15 = .ok (.aload_n 0, 1) := by decide +kernel
theorem dX5_removeRule_16 : decode cX5_removeRule 16 = .ok (.iload_n 1, 1) := by decide +kernel
theorem dX5_removeRule_17 : decode cX5_removeRule 17 = .ok (.iload_n 2, 1) := by decide +kernel
theorem dX5_removeRule_18 : decode cX5_removeRule 18 = .ok (.invokevirtual 114, 3) := by decide +kernel
theorem dX5_removeRule_21 : decode cX5_removeRule 21 = .ok (.aload_n 0, 1) := by decide +kernel
theorem dX5_removeRule_22 : decode cX5_removeRule 22 = .ok (.getfield 13, 3) := by decide +kernel
theorem dX5_removeRule_25 : decode cX5_removeRule 25 = .ok (.bipush 42, 2) := by decide +kernel
theorem dX5_removeRule_27 : decode cX5_removeRule 27 = .ok (.iload_n 1, 1) := by decide +kernel
theorem dX5_removeRule_28 : decode cX5_removeRule 28 = .ok (.imul, 1) := by decide +kernel
theorem dX5_removeRule_29 : decode cX5_removeRule 29 = .ok (.iaload, 1) := by decide +kernel
theorem dX5_removeRule_30 : decode cX5_removeRule 30 = .ok (.ireturn, 1) := by decide +kernel
theorem dX5_moveRule_0 : decode cX5_moveRule 0 = .ok (.aload_n 0, 1) := by decide +kernel
theorem dX5_moveRule_1 : decode cX5_moveRule 1 = .ok (.iload_n 1, 1) := by decide +kernel
theorem dX5_moveRule_2 : decode cX5_moveRule 2 = .ok (.iload_n 2, 1) := by decide +kernel
theorem dX5_moveRule_3 : decode cX5_moveRule 3 = .ok (.invokevirtual 111, 3) := by decide +kernel
theorem dX5_moveRule_6 : decode cX5_moveRule 6 = .ok (.ifCond .eq 12, 3) := by decide +kernel
theorem dX5_moveRule_9 : decode cX5_moveRule 9 = .ok (.aload_n 0, 1) := by decide +kernel
theorem dX5_moveRule_10 : decode cX5_moveRule 10 = .ok (.iload_n 1, 1) := by decide +kernel
theorem dX5_moveRule_11 : decode cX5_moveRule 11 = .ok (.iload_n 3, 1) := by decide +kernel
theorem dX5_moveRule_12 : decode cX5_moveRule 12 = .ok (.invokevirtual 111, 3) := by decide +kernel
theorem dX5_moveRule_15 : decode cX5_moveRule 15 = .ok (.ifCond .ne 5, 3) := by decide +kernel
theorem dX5_moveRule_18 : decode cX5_moveRule 18 = .ok (.iconst (-1), 1) := by decide +kernel
theorem dX5_moveRule_19 : decode cX5_moveRule 19 = .ok (.ireturn, 1) := by decide +kernel
theorem dX5_moveRule_20 : decode cX5_moveRule 20 = .ok (.iload_n 2, 1) := by decide +kernel
theorem dX5_moveRule_21 : decode cX5_moveRule 21 = .ok (.iload_n 3, 1) := by decide +kernel
theorem dX5_moveRule_22 : decode cX5_moveRule 22 = .ok (.if_icmp .ne 6, 3) := by decide +kernel
theorem dX5_moveRule_25 : decode cX5_moveRule 25 = .ok (.bipush (-3), 2) := by decide +kernel
theorem dX5_moveRule_27 : decode cX5_moveRule 27 = .ok (.ireturn, 1) := by decide +kernel
theorem dX5_moveRule_28 : decode cX5_moveRule 28 = .ok (.aload_n 0, 1) := by decide +kernel
theorem dX5_moveRule_29 : decode cX5_moveRule 29 = .ok (.invokevirtual 104, 3) := by decide +kernel
theorem dX5_moveRule_32 : decode cX5_moveRule 32 = .ok (.bipush 42, 2) := by decide +kernel
theorem dX5_moveRule_34 : decode cX5_moveRule 34 = .ok (.iload_n 1, 1) := by decide +kernel
theorem dX5_moveRule_35 : decode cX5_moveRule 35 = .ok (.imul, 1) := by decide +kernel
theorem dX5_moveRule_36 : decode cX5_moveRule 36 = .ok (.iconst 2, 1) := by decide +kernel
theorem dX5_moveRule_37 : decode cX5_moveRule 37 = .ok (.iadd, 1) := by decide +kernel
theorem dX5_moveRule_38 : decode cX5_moveRule 38 = .ok (.istore 4, 2) := by decide +kernel
theorem dX5_moveRule_40 : decode cX5_moveRule 40 = .ok (.iconst 0, 1) := by decide +kernel
theorem dX5_moveRule_41 : decode cX5_moveRule 41 = .ok (.istore 5, 2) := by decide +kernel
theorem dX5_moveRule_43 : decode cX5_moveRule 43 = .ok (.iload 5, 2) := by decide +kernel
theorem dX5_moveRule_45 : decode cX5_moveRule 45 = .ok (.iconst 5, 1) := by decide +kernel
theorem dX5_moveRule_46 : decode cX5_moveRule 46 = .ok (.if_icmp .ge 30, 3) := by decide +kernel
theorem dX5_moveRule_49 : decode cX5_moveRule 49 = .ok (.aload_n 0, 1) := by decide +kernel
theorem dX5_moveRule_50 : decode cX5_moveRule 50 = .ok (.getfield 28, 3) := by decide +kernel
theorem dX5_moveRule_53 : decode cX5_moveRule 53 = .ok (.iload 5, 2) := by decide +kernel
theorem dX5_moveRule_55 : decode cX5_moveRule 55 = .ok (.aload_n 0, 1) := by decide +kernel
theorem dX5_moveRule_56 : decode cX5_moveRule 56 = .ok (.getfield 13, 3) := by decide +kernel
theorem dX5_moveRule_59 : decode cX5_moveRule 59 = .ok (.iload 4, 2) := by decide +kernel
theorem dX5_moveRule_61 : decode cX5_moveRule 61 = .ok (.iconst 5, 1) := by decide +kernel
theorem dX5_moveRule_62 : decode cX5_moveRule 62 = .ok (.iload_n 2, 1) := by decide +kernel
theorem dX5_moveRule_63 : decode cX5_moveRule 63 = .ok (.imul, 1) := by decide +kernel
theorem dX5_moveRule_64 : decode cX5_moveRule 64 = .ok (.iadd, 1) := by decide +kernel
theorem dX5_moveRule_65 : decode cX5_moveRule 65 = .ok (.iload 5, 2) := by decide +kernel
theorem dX5_moveRule_67 : decode cX5_moveRule 67 = .ok (.iadd, 1) := by decide +kernel
theorem dX5_moveRule_68 : decode cX5_moveRule 68 = .ok (.iaload, 1) := by decide +kernel
theorem dX5_moveRule_69 : decode cX5_moveRule 69 = .ok (.iastore, 1) := by decide +kernel
theorem dX5_moveRule_70 : decode cX5_moveRule 70 = .ok (.iinc 5 1, 3) := by decide +kernel
theorem dX5_moveRule_73 : decode cX5_moveRule 73 = .ok (.goto (-30), 3) := by decide +kernel
theorem dX5_moveRule_76 : decode cX5_moveRule 76 = .ok (.iload_n 2, 1) := by decide +kernel
theorem dX5_moveRule_77 : decode cX5_moveRule 77 = .ok (.iload_n 3, 1) := by decide +kernel
theorem dX5_moveRule_78 : decode cX5_moveRule 78 = .ok (.if_icmp .ge 7, 3) := by decide +kernel
theorem dX5_moveRule_81 : decode cX5_moveRule 81 = .ok (.iconst 1, 1) := by decide +kernel
theorem dX5_moveRule_82 : decode cX5_moveRule 82 = .ok (.goto 4, 3) := by decide +kernel
theorem dX5_moveRule_85 : decode cX5_moveRule 85 = .ok (.iconst (-1), 1) := by decide +kernel
theorem dX5_moveRule_86 : decode cX5_moveRule 86 = .ok (.istore 5, 2) := by decide +kernel
theorem dX5_moveRule_88 : decode cX5_moveRule 88 = .ok (.iload_n 2, 1) := by decide +kernel
theorem dX5_moveRule_89 : decode cX5_moveRule 89 = .ok (.istore 6, 2) := by decide +kernel
theorem dX5_moveRule_91 : decode cX5_moveRule 91 = .ok (.iload 6, 2) := by decide +kernel
theorem dX5_moveRule_93 : decode cX5_moveRule 93 = .ok (.iload_n 3, 1) := by decide +kernel
theorem dX5_moveRule_94 : decode cX5_moveRule 94 = .ok (.if_icmp .eq 25, 3) := by decide +kernel
theorem dX5_moveRule_97 : decode cX5_moveRule 97 = .ok (.aload_n 0, 1) := by decide +kernel
theorem dX5_moveRule_98 : decode cX5_moveRule 98 = .ok (.iload_n 1, 1) := by decide +kernel
theorem dX5_moveRule_99 : decode cX5_moveRule 99 = .ok (.iload 6, 2) := by decide +kernel
theorem dX5_moveRule_101 : decode cX5_moveRule 101 = .ok (.iload 5, 2) := by decide +kernel
theorem dX5_moveRule_103 : decode cX5_moveRule 103 = .ok (.iadd, 1) := by decide +kernel
theorem dX5_moveRule_104 : decode cX5_moveRule 104 = .ok (.iload 6, 2) := by decide +kernel
theorem dX5_moveRule_106 : decode cX5_moveRule 106 = .ok (.invokevirtual 107, 3) := by decide +kernel
theorem dX5_moveRule_109 : decode cX5_moveRule 109 = .ok (.iload 6, 2) := by decide +kernel
theorem dX5_moveRule_111 : decode cX5_moveRule 111 = .ok (.iload 5, 2) := by decide +kernel
theorem dX5_moveRule_113 : decode cX5_moveRule 113 = .ok (.iadd, 1) := by decide +kernel
theorem dX5_moveRule_114 : decode cX5_moveRule 114 = .ok (.istore 6, 2) := by decide +kernel
theorem dX5_moveRule_116 : decode cX5_moveRule 116 = .ok (.goto (-25), 3) := by decide +kernel
theorem dX5_moveRule_119 : decode cX5_moveRule 119 = .ok (.iconst 0, 1) := by decide +kernel
theorem dX5_moveRule_120 : decode cX5_moveRule 120 = .ok (.istore 6, 2) := by decide +kernel
theorem dX5_moveRule_122 : decode cX5_moveRule 122 = .ok (.iload 6, 2) := by decide +kernel
theorem dX5_moveRule_124 : decode cX5_moveRule 124 = .ok (.iconst 5, 1) := by decide +kernel
theorem dX5_moveRule_125 : decode cX5_moveRule 125 = .ok (.if_icmp .ge 30, 3) := by decide +kernel
theorem dX5_moveRule_128 : decode cX5_moveRule 128 = .ok (.aload_n 0, 1) := by decide +kernel
theorem dX5_moveRule_129 : decode cX5_moveRule 129 = .ok (.getfield 13, 3) := by decide +kernel
theorem dX5_moveRule_132 : decode cX5_moveRule 132 = .ok (.iload 4, 2) := by decide +kernel
theorem dX5_moveRule_134 : decode cX5_moveRule 134 = .ok (.iconst 5, 1) := by decide +kernel
theorem dX5_moveRule_135 : decode cX5_moveRule 135 = .ok (.iload_n 3, 1) := by decide +kernel
theorem dX5_moveRule_136 : decode cX5_moveRule 136 = .ok (.imul, 1) := by decide +kernel
theorem dX5_moveRule_137 : decode cX5_moveRule 137 = .ok (.iadd, 1) := by decide +kernel
theorem dX5_moveRule_138 : decode cX5_moveRule 138 = .ok (.iload 6, 2) := by decide +kernel
theorem dX5_moveRule_140 : decode cX5_moveRule 140 = .ok (.iadd, 1) := by decide +kernel
theorem dX5_moveRule_141 : decode cX5_moveRule 141 = .ok (.aload_n 0, 1) := by decide +kernel
theorem dX5_moveRule_142 : decode cX5_moveRule 142 = .ok (.getfield 28, 3) := by decide +kernel
theorem dX5_moveRule_145 : decode cX5_moveRule 145 = .ok (.iload 6, 2) := by decide +kernel
theorem dX5_moveRule_147 : decode cX5_moveRule 147 = .ok (.iaload, 1) := by decide +kernel
theorem dX5_moveRule_148 : decode cX5_moveRule 148 = .ok (.iastore, 1) := by decide +kernel
theorem dX5_moveRule_149 : decode cX5_moveRule 149 = .ok (.iinc 6 1, 3) := by decide +kernel
theorem dX5_moveRule_152 : decode cX5_moveRule 152 = .ok (.goto (-30), 3) := by decide +kernel
theorem dX5_moveRule_155 : decode cX5_moveRule 155 = .ok (.aload_n 0, 1) := by decide +kernel
theorem dX5_moveRule_156 : decode cX5_moveRule 156 = .ok (.getfield 28, 3) := by decide +kernel
theorem dX5_moveRule_159 : decode cX5_moveRule 159 = .ok (.iconst 0, 1) := by decide +kernel
theorem dX5_moveRule_160 : decode cX5_moveRule 160 = .ok (.iaload, 1) := by decide +kernel
theorem dX5_moveRule_161 : decode cX5_moveRule 161 = .ok (.ireturn, 1) := by decide +kernel
theorem dX5_setAlgorithm_0 : decode cX5_setAlgorithm 0 = .ok (.iload_n 1, 1) := by decide +kernel
theorem dX5_setAlgorithm_1 : decode cX5_setAlgorithm 1 = .ok (.invokestatic 101, 3) := by decide +kernel
theorem dX5_setAlgorithm_4 : decode cX5_setAlgorithm 4 = .ok (.ifCond .eq 12, 3) := by decide +kernel
theorem dX5_setAlgorithm_7 : decode cX5_setAlgorithm 7 = .ok (.iload_n 2, 1) := by decide +kernel
theorem dX5_setAlgorithm_8 : decode cX5_setAlgorithm 8 = .ok (.iconst 0, 1) := by decide +kernel
theorem dX5_setAlgorithm_9 : decode cX5_setAlgorithm 9 = .ok (.iconst 4, 1) := by decide +kernel
theorem dX5_setAlgorithm_10 : decode cX5_setAlgorithm 10 = .ok (.invokestatic 41, 3) := by decide +kernel
theorem dX5_setAlgorithm_13 : decode cX5_setAlgorithm 13 = .ok (.ifCond .ne 5, 3) := by decide +kernel
theorem dX5_setAlgorithm_16 : decode cX5_setAlgorithm 16 = .ok (.iconst (-1), 1) := by decide +kernel
theorem dX5_setAlgorithm_17 : decode cX5_setAlgorithm 17 = .ok (.ireturn, 1) := by decide +kernel
theorem dX5_setAlgorithm_18 : decode cX5_setAlgorithm 18 = .ok (.aload_n 0, 1) := by decide +kernel
theorem dX5_setAlgorithm_19 : decode cX5_setAlgorithm 19 = .ok (.getfield 13, 3) := by decide +kernel
theorem dX5_setAlgorithm_22 : decode cX5_setAlgorithm 22 = .ok (.bipush 42, 2) := by decide +kernel
theorem dX5_setAlgorithm_24 : decode cX5_setAlgorithm 24 = .ok (.iload_n 1, 1) := by decide +kernel
theorem dX5_setAlgorithm_25 : decode cX5_setAlgorithm 25 = .ok (.imul, 1) := by decide +kernel
theorem dX5_setAlgorithm_26 : decode cX5_setAlgorithm 26 = .ok (.iconst 1, 1) := by decide +kernel
theorem dX5_setAlgorithm_27 : decode cX5_setAlgorithm 27 = .ok (.iadd, 1) := by decide +kernel
theorem dX5_setAlgorithm_28 : decode cX5_setAlgorithm 28 = .ok (.iaload, 1) := by decide +kernel
theorem dX5_setAlgorithm_29 : decode cX5_setAlgorithm 29 = .ok (.istore_n 3, 1) := by decide +kernel
theorem dX5_setAlgorithm_30 : decode cX5_setAlgorithm 30 = .ok (.iload_n 3, 1) := by decide +kernel
theorem dX5_setAlgorithm_31 : decode cX5_setAlgorithm 31 = .ok (.iload_n 2, 1) := by decide +kernel
theorem dX5_setAlgorithm_32 : decode cX5_setAlgorithm 32 = .ok (.if_icmp .ne 6, 3) := by decide +kernel
theorem dX5_setAlgorithm_35 : decode cX5_setAlgorithm 35 = .ok (.bipush (-3), 2) := by decide +kernel
theorem dX5_setAlgorithm_37 : decode cX5_setAlgorithm 37 = .ok (.ireturn, 1) := by decide +kernel
theorem dX5_setAlgorithm_38 : decode cX5_setAlgorithm 38 = .ok (.aload_n 0, 1) := by decide +kernel
theorem dX5_setAlgorithm_39 : decode cX5_setAlgorithm 39 = .ok (.invokevirtual 104, 3) := by decide +kernel
theorem dX5_setAlgorithm_42 : decode cX5_setAlgorithm 42 = .ok (.aload_n 0, 1) := by decide +kernel
theorem dX5_setAlgorithm_43 : decode cX5_setAlgorithm 43 = .ok (.getfield 13, 3) := by decide +kernel
theorem dX5_setAlgorithm_46 : decode cX5_setAlgorithm 46 = .ok (.bipush 42, 2) := by decide +kernel
theorem dX5_setAlgorithm_48 : decode cX5_setAlgorithm 48 = .ok (.iload_n 1, 1) := by decide +kernel
theorem dX5_setAlgorithm_49 : decode cX5_setAlgorithm 49 = .ok (.imul, 1) := by decide +kernel
theorem dX5_setAlgorithm_50 : decode cX5_setAlgorithm 50 = .ok (.iconst 1, 1) := by decide +kernel
theorem dX5_setAlgorithm_51 : decode cX5_setAlgorithm 51 = .ok (.iadd, 1) := by decide +kernel
theorem dX5_setAlgorithm_52 : decode cX5_setAlgorithm 52 = .ok (.iload_n 2, 1) := by decide +kernel
theorem dX5_setAlgorithm_53 : decode cX5_setAlgorithm 53 = .ok (.iastore, 1) := by decide +kernel
theorem dX5_setAlgorithm_54 : decode cX5_setAlgorithm 54 = .ok (.iload_n 3, 1) := by decide +kernel
theorem dX5_setAlgorithm_55 : decode cX5_setAlgorithm 55 = .ok (.ireturn, 1) := by decide +kernel
theorem dX5_setTarget_0 : decode cX5_setTarget 0 = .ok (.aload_n 0, 1) := by decide +kernel
theorem dX5_setTarget_1 : decode cX5_setTarget 1 = .ok (.iload_n 1, 1) := by decide +kernel
theorem dX5_setTarget_2 : decode cX5_setTarget 2 = .ok (.iload_n 2, 1) := by decide +kernel
theorem dX5_setTarget_3 : decode cX5_setTarget 3 = .ok (.invokevirtual 111, 3) := by decide +kernel
theorem dX5_setTarget_6 : decode cX5_setTarget 6 = .ok (.ifCond .eq 29, 3) := by decide +kernel
theorem dX5_setTarget_9 : decode cX5_setTarget 9 = .ok (.iload_n 3, 1) := by decide +kernel
theorem dX5_setTarget_10 : decode cX5_setTarget 10 = .ok (.iconst 0, 1) := by decide +kernel
theorem dX5_setTarget_11 : decode cX5_setTarget 11 = .ok (.iconst 3, 1) := by decide +kernel
theorem dX5_setTarget_12 : decode cX5_setTarget 12 = .ok (.invokestatic 41, 3) := by decide +kernel
theorem dX5_setTarget_15 : decode cX5_setTarget 15 = .ok (.ifCond .eq 20, 3) := by decide +kernel
theorem dX5_setTarget_18 : decode cX5_setTarget 18 = .ok (.iload 4, 2) := by decide +kernel
theorem dX5_setTarget_20 : decode cX5_setTarget 20 = .ok (.iconst 1, 1) := by decide +kernel
theorem dX5_setTarget_21 : decode cX5_setTarget 21 = .ok (.iconst 1, 1) := by decide +kernel
theorem dX5_setTarget_22 : decode cX5_setTarget 22 = .ok (.iload_n 3, 1) := by decide +kernel
theorem dX5_setTarget_23 : decode cX5_setTarget 23 = .ok (.invokestatic 70, 3) := by decide +kernel
theorem dX5_setTarget_26 : decode cX5_setTarget 26 = .ok (.ishl, 1) := by decide +kernel
theorem dX5_setTarget_27 : decode cX5_setTarget 27 = .ok (.iconst 1, 1) := by decide +kernel
theorem dX5_setTarget_28 : decode cX5_setTarget 28 = .ok (.isub, 1) := by decide +kernel
theorem dX5_setTarget_29 : decode cX5_setTarget 29 = .ok (.invokestatic 41, 3) := by decide +kernel
theorem dX5_setTarget_32 : decode cX5_setTarget 32 = .ok (.ifCond .ne 5, 3) := by decide +kernel
theorem dX5_setTarget_35 : decode cX5_setTarget 35 = .ok (.iconst (-1), 1) := by decide +kernel
theorem dX5_setTarget_36 : decode cX5_setTarget 36 = .ok (.ireturn, 1) := by decide +kernel
theorem dX5_setTarget_37 : decode cX5_setTarget 37 = .ok (.bipush 42, 2) := by decide +kernel
theorem dX5_setTarget_39 : decode cX5_setTarget 39 = .ok (.iload_n 1, 1) := by decide +kernel
theorem dX5_setTarget_40 : decode cX5_setTarget 40 = .ok (.imul, 1) := by decide +kernel
theorem dX5_setTarget_41 : decode cX5_setTarget 41 = .ok (.iconst 2, 1) := by decide +kernel
theorem dX5_setTarget_42 : decode cX5_setTarget 42 = .ok (.iadd, 1) := by decide +kernel
theorem dX5_setTarget_43 : decode cX5_setTarget 43 = .ok (.iconst 5, 1) := by decide +kernel
theorem dX5_setTarget_44 : decode cX5_setTarget 44 = .ok (.iload_n 2, 1) := by decide +kernel
theorem dX5_setTarget_45 : decode cX5_setTarget 45 = .ok (.imul, 1) := by decide +kernel
theorem dX5_setTarget_46 : decode cX5_setTarget 46 = .ok (.iadd, 1) := by decide +kernel
theorem dX5_setTarget_47 : decode cX5_setTarget 47 = .ok (.iconst 1, 1) := by decide +kernel
theorem dX5_setTarget_48 : decode cX5_setTarget 48 = .ok (.iadd, 1) := by decide +kernel
theorem dX5_setTarget_49 : decode cX5_setTarget 49 = .ok (.iload_n 3, 1) := by decide +kernel
theorem dX5_setTarget_50 : decode cX5_setTarget 50 = .ok (.iadd, 1) := by decide +kernel
theorem dX5_setTarget_51 : decode cX5_setTarget 51 = .ok (.istore 5, 2) := by decide +kernel
theorem dX5_setTarget_53 : decode cX5_setTarget 53 = .ok (.aload_n 0, 1) := by decide +kernel
theorem dX5_setTarget_54 : decode cX5_setTarget 54 = .ok (.getfield 13, 3) := by decide +kernel
theorem dX5_setTarget_57 : decode cX5_setTarget 57 = .ok (.iload 5, 2) := by decide +kernel
theorem dX5_setTarget_59 : decode cX5_setTarget 59 = .ok (.iaload, 1) := by decide +kernel
theorem dX5_setTarget_60 : decode cX5_setTarget 60 = .ok (.istore 6, 2) := by decide +kernel
theorem dX5_setTarget_62 : decode cX5_setTarget 62 = .ok (.iload 6, 2) := by decide +kernel
theorem dX5_setTarget_64 : decode cX5_setTarget 64 = .ok (.iload 4, 2) := by decide +kernel
theorem dX5_setTarget_66 : decode cX5_setTarget 66 = .ok (.if_icmp .ne 6, 3) := by decide +kernel
theorem dX5_setTarget_69 : decode cX5_setTarget 69 = .ok (.bipush (-3), 2) := by decide +kernel
theorem dX5_setTarget_71 : decode cX5_setTarget 71 = .ok (.ireturn, 1) := by decide +kernel
theorem dX5_setTarget_72 : decode cX5_setTarget 72 = .ok (.aload_n 0, 1) := by decide +kernel
theorem dX5_setTarget_73 : decode cX5_setTarget 73 = .ok (.invokevirtual 104, 3) := by decide +kernel
theorem dX5_setTarget_76 : decode cX5_setTarget 76 = .ok (.aload_n 0, 1) := by decide +kernel
theorem dX5_setTarget_77 : decode cX5_setTarget 77 = .ok (.getfield 13, 3) := by decide +kernel
theorem dX5_setTarget_80 : decode cX5_setTarget 80 = .ok (.iload 5, 2) := by decide +kernel
theorem dX5_setTarget_82 : decode cX5_setTarget 82 = .ok (.iload 4, 2) := by decide +kernel
theorem dX5_setTarget_84 : decode cX5_setTarget 84 = .ok (.iastore, 1) := by decide +kernel
theorem dX5_setTarget_85 : decode cX5_setTarget 85 = .ok (.iload 6, 2) := by decide +kernel
theorem dX5_setTarget_87 : decode cX5_setTarget 87 = .ok (.ireturn, 1) := by decide +kernel
theorem dX5_flipEffect_0 : decode cX5_flipEffect 0 = .ok (.aload_n 0, 1) := by decide +kernel
theorem dX5_flipEffect_1 : decode cX5_flipEffect 1 = .ok (.iload_n 1, 1) := by decide +kernel
theorem dX5_flipEffect_2 : decode cX5_flipEffect 2 = .ok (.iload_n 2, 1) := by decide +kernel
theorem dX5_flipEffect_3 : decode cX5_flipEffect 3 = .ok (.invokevirtual 111, 3) := by decide +kernel
theorem dX5_flipEffect_6 : decode cX5_flipEffect 6 = .ok (.ifCond .ne 5, 3) := by decide +kernel
theorem dX5_flipEffect_9 : decode cX5_flipEffect 9 = .ok (.iconst (-1), 1) := by decide +kernel
theorem dX5_flipEffect_10 : decode cX5_flipEffect 10 = .ok (.ireturn, 1) := by decide +kernel
theorem dX5_flipEffect_11 : decode cX5_flipEffect 11 = .ok (.aload_n 0, 1) := by decide +kernel
theorem dX5_flipEffect_12 : decode cX5_flipEffect 12 = .ok (.invokevirtual 104, 3) := by decide +kernel
theorem dX5_flipEffect_15 : decode cX5_flipEffect 15 = .ok (.bipush 42, 2) := by decide +kernel
theorem dX5_flipEffect_17 : decode cX5_flipEffect 17 = .ok (.iload_n 1, 1) := by decide +kernel
theorem dX5_flipEffect_18 : decode cX5_flipEffect 18 = .ok (.imul, 1) := by decide +kernel
theorem dX5_flipEffect_19 : decode cX5_flipEffect 19 = .ok (.iconst 2, 1) := by decide +kernel
theorem dX5_flipEffect_20 : decode cX5_flipEffect 20 = .ok (.iadd, 1) := by decide +kernel
theorem dX5_flipEffect_21 : decode cX5_flipEffect 21 = .ok (.iconst 5, 1) := by decide +kernel
theorem dX5_flipEffect_22 : decode cX5_flipEffect 22 = .ok (.iload_n 2, 1) := by decide +kernel
theorem dX5_flipEffect_23 : decode cX5_flipEffect 23 = .ok (.imul, 1) := by decide +kernel
theorem dX5_flipEffect_24 : decode cX5_flipEffect 24 = .ok (.iadd, 1) := by decide +kernel
theorem dX5_flipEffect_25 : decode cX5_flipEffect 25 = .ok (.istore_n 3, 1) := by decide +kernel
theorem dX5_flipEffect_26 : decode cX5_flipEffect 26 = .ok (.aload_n 0, 1) := by decide +kernel
theorem dX5_flipEffect_27 : decode cX5_flipEffect 27 = .ok (.getfield 13, 3) := by decide +kernel
theorem dX5_flipEffect_30 : decode cX5_flipEffect 30 = .ok (.iload_n 3, 1) := by decide +kernel
theorem dX5_flipEffect_31 : decode cX5_flipEffect 31 = .ok (.iconst 1, 1) := by decide +kernel
theorem dX5_flipEffect_32 : decode cX5_flipEffect 32 = .ok (.aload_n 0, 1) := by decide +kernel
theorem dX5_flipEffect_33 : decode cX5_flipEffect 33 = .ok (.getfield 13, 3) := by decide +kernel
theorem dX5_flipEffect_36 : decode cX5_flipEffect 36 = .ok (.iload_n 3, 1) := by decide +kernel
theorem dX5_flipEffect_37 : decode cX5_flipEffect 37 = .ok (.iaload, 1) := by decide +kernel
theorem dX5_flipEffect_38 : decode cX5_flipEffect 38 = .ok (.isub, 1) := by decide +kernel
theorem dX5_flipEffect_39 : decode cX5_flipEffect 39 = .ok (.iastore, 1) := by decide +kernel
theorem dX5_flipEffect_40 : decode cX5_flipEffect 40 = .ok (.aload_n 0, 1) := by decide +kernel
theorem dX5_flipEffect_41 : decode cX5_flipEffect 41 = .ok (.getfield 13, 3) := by decide +kernel
theorem dX5_flipEffect_44 : decode cX5_flipEffect 44 = .ok (.iload_n 3, 1) := by decide +kernel
theorem dX5_flipEffect_45 : decode cX5_flipEffect 45 = .ok (.iaload, 1) := by decide +kernel
theorem dX5_flipEffect_46 : decode cX5_flipEffect 46 = .ok (.ireturn, 1) := by decide +kernel
theorem dX5_copyOldToNew_0 : decode cX5_copyOldToNew 0 = .ok (.aload_n 0, 1) := by decide +kernel
theorem dX5_copyOldToNew_1 : decode cX5_copyOldToNew 1 = .ok (.invokevirtual 104, 3) := by decide +kernel
theorem dX5_copyOldToNew_4 : decode cX5_copyOldToNew 4 = .ok (.iconst 0, 1) := by decide +kernel
theorem dX5_copyOldToNew_5 : decode cX5_copyOldToNew 5 = .ok (.istore_n 1, 1) := by decide +kernel
theorem dX5_copyOldToNew_6 : decode cX5_copyOldToNew 6 = .ok (.iload_n 1, 1) := by decide +kernel
theorem dX5_copyOldToNew_7 : decode cX5_copyOldToNew 7 = .ok (.bipush 42, 2) := by decide +kernel
theorem dX5_copyOldToNew_9 : decode cX5_copyOldToNew 9 = .ok (.if_icmp .ge 24, 3) := by decide +kernel
theorem dX5_copyOldToNew_12 : decode cX5_copyOldToNew 12 = .ok (.aload_n 0, 1) := by decide +kernel
theorem dX5_copyOldToNew_13 : decode cX5_copyOldToNew 13 = .ok (.getfield 13, 3) := by decide +kernel
theorem dX5_copyOldToNew_16 : decode cX5_copyOldToNew 16 = .ok (.bipush 42, 2) := by decide +kernel
theorem dX5_copyOldToNew_18 : decode cX5_copyOldToNew 18 = .ok (.iload_n 1, 1) := by decide +kernel
theorem dX5_copyOldToNew_19 : decode cX5_copyOldToNew 19 = .ok (.iadd, 1) := by decide +kernel
theorem dX5_copyOldToNew_20 : decode cX5_copyOldToNew 20 = .ok (.aload_n 0, 1) := by decide +kernel
theorem dX5_copyOldToNew_21 : decode cX5_copyOldToNew 21 = .ok (.getfield 13, 3) := by decide +kernel
theorem dX5_copyOldToNew_24 : decode cX5_copyOldToNew 24 = .ok (.iload_n 1, 1) := by decide +kernel
theorem dX5_copyOldToNew_25 : decode cX5_copyOldToNew 25 = .ok (.iaload, 1) := by decide +kernel
theorem dX5_copyOldToNew_26 : decode cX5_copyOldToNew 26 = .ok (.iastore, 1) := by decide +kernel
theorem dX5_copyOldToNew_27 : decode cX5_copyOldToNew 27 = .ok (.iinc 1 1, 3) := by decide +kernel
theorem dX5_copyOldToNew_30 : decode cX5_copyOldToNew 30 = .ok (.goto (-24), 3) := by decide +kernel
theorem dX5_copyOldToNew_33 : decode cX5_copyOldToNew 33 = .ok (.aload_n 0, 1) := by decide +kernel
theorem dX5_copyOldToNew_34 : decode cX5_copyOldToNew 34 = .ok (.getfield 13, 3) := by decide +kernel
theorem dX5_copyOldToNew_37 : decode cX5_copyOldToNew 37 = .ok (.iconst 0, 1) := by decide +kernel
theorem dX5_copyOldToNew_38 : decode cX5_copyOldToNew 38 = .ok (.iaload, 1) := by decide +kernel
theorem dX5_copyOldToNew_39 : decode cX5_copyOldToNew 39 = .ok (.ireturn, 1) := by decide +kernel
theorem dX5_ruleCount_0 : decode cX5_ruleCount 0 = .ok (.iload_n 1, 1) := by decide +kernel
theorem dX5_ruleCount_1 : decode cX5_ruleCount 1 = .ok (.invokestatic 101, 3) := by decide +kernel
theorem dX5_ruleCount_4 : decode cX5_ruleCount 4 = .ok (.ifCond .eq 15, 3) := by decide +kernel
theorem dX5_ruleCount_7 : decode cX5_ruleCount 7 = .ok (.aload_n 0, 1) := by decide +kernel
theorem dX5_ruleCount_8 : decode cX5_ruleCount 8 = .ok (.getfield 13, 3) := by decide +kernel
theorem dX5_ruleCount_11 : decode cX5_ruleCount 11 = .ok (.bipush 42, 2) := by decide +kernel
theorem dX5_ruleCount_13 : decode cX5_ruleCount 13 = .ok (.iload_n 1, 1) := by decide +kernel
theorem dX5_ruleCount_14 : decode cX5_ruleCount 14 = .ok (.imul, 1) := by decide +kernel
theorem dX5_ruleCount_15 : decode cX5_ruleCount 15 = .ok (.iaload, 1) := by decide +kernel
theorem dX5_ruleCount_16 : decode cX5_ruleCount 16 = .ok (.goto 4, 3) := by decide +kernel
theorem dX5_ruleCount_19 : decode cX5_ruleCount 19 = .ok (.iconst (-1), 1) := by decide +kernel
theorem dX5_ruleCount_20 : decode cX5_ruleCount 20 = .ok (.ireturn, 1) := by decide +kernel
theorem dX5_effectOf_0 : decode cX5_effectOf 0 = .ok (.aload_n 0, 1) := by decide +kernel
theorem dX5_effectOf_1 : decode cX5_effectOf 1 = .ok (.iload_n 1, 1) := by decide +kernel
theorem dX5_effectOf_2 : decode cX5_effectOf 2 = .ok (.iload_n 2, 1) := by decide +kernel
theorem dX5_effectOf_3 : decode cX5_effectOf 3 = .ok (.invokevirtual 111, 3) := by decide +kernel
theorem dX5_effectOf_6 : decode cX5_effectOf 6 = .ok (.ifCond .eq 21, 3) := by decide +kernel
theorem dX5_effectOf_9 : decode cX5_effectOf 9 = .ok (.aload_n 0, 1) := by decide +kernel
theorem dX5_effectOf_10 : decode cX5_effectOf 10 = .ok (.getfield 13, 3) := by decide +kernel
theorem dX5_effectOf_13 : decode cX5_effectOf 13 = .ok (.bipush 42, 2) := by decide +kernel
theorem dX5_effectOf_15 : decode cX5_effectOf 15 = .ok (.iload_n 1, 1) := by decide +kernel
theorem dX5_effectOf_16 : decode cX5_effectOf 16 = .ok (.imul, 1) := by decide +kernel
theorem dX5_effectOf_17 : decode cX5_effectOf 17 = .ok (.iconst 2, 1) := by decide +kernel
theorem dX5_effectOf_18 : decode cX5_effectOf 18 = .ok (.iadd, 1) := by decide +kernel
theorem dX5_effectOf_19 : decode cX5_effectOf 19 = .ok (.iconst 5, 1) := by decide +kernel
theorem dX5_effectOf_20 : decode cX5_effectOf 20 = .ok (.iload_n 2, 1) := by decide +kernel
theorem dX5_effectOf_21 : decode cX5_effectOf 21 = .ok (.imul, 1) := by decide +kernel
theorem dX5_effectOf_22 : decode cX5_effectOf 22 = .ok (.iadd, 1) := by decide +kernel
theorem dX5_effectOf_23 : decode cX5_effectOf 23 = .ok (.iaload, 1) := by decide +kernel
theorem dX5_effectOf_24 : decode cX5_effectOf 24 = .ok (.goto 4, 3) := by decide +kernel
theorem dX5_effectOf_27 : decode cX5_effectOf 27 = .ok (.iconst (-1), 1) := by decide +kernel
theorem dX5_effectOf_28 : decode cX5_effectOf 28 = .ok (.ireturn, 1) := by decide +kernel
theorem dX5_targetOf_0 : decode cX5_targetOf 0 = .ok (.aload_n 0, 1) := by decide +kernel
theorem dX5_targetOf_1 : decode cX5_targetOf 1 = .ok (.iload_n 1, 1) := by decide +kernel
theorem dX5_targetOf_2 : decode cX5_targetOf 2 = .ok (.iload_n 2, 1) := by decide +kernel
theorem dX5_targetOf_3 : decode cX5_targetOf 3 = .ok (.invokevirtual 111, 3) := by decide +kernel
theorem dX5_targetOf_6 : decode cX5_targetOf 6 = .ok (.ifCond .eq 34, 3) := by decide +kernel
theorem dX5_targetOf_9 : decode cX5_targetOf 9 = .ok (.iload_n 3, 1) := by decide +kernel
theorem dX5_targetOf_10 : decode cX5_targetOf 10 = .ok (.iconst 0, 1) := by decide +kernel
theorem dX5_targetOf_11 : decode cX5_targetOf 11 = .ok (.iconst 3, 1) := by decide +kernel
theorem dX5_targetOf_12 : decode cX5_targetOf 12 = .ok (.invokestatic 41, 3) := by decide +kernel
theorem dX5_targetOf_15 : decode cX5_targetOf 15 = .ok (.ifCond .eq 25, 3) := by decide +kernel
theorem dX5_targetOf_18 : decode cX5_targetOf 18 = .ok (.aload_n 0, 1) := by decide +kernel
theorem dX5_targetOf_19 : decode cX5_targetOf 19 = .ok (.getfield 13, 3) := by decide +kernel
theorem dX5_targetOf_22 : decode cX5_targetOf 22 = .ok (.bipush 42, 2) := by decide +kernel
theorem dX5_targetOf_24 : decode cX5_targetOf 24 = .ok (.iload_n 1, 1) := by decide +kernel
theorem dX5_targetOf_25 : decode cX5_targetOf 25 = .ok (.imul, 1) := by decide +kernel
theorem dX5_targetOf_26 : decode cX5_targetOf 26 = .ok (.iconst 2, 1) := by decide +kernel
theorem dX5_targetOf_27 : decode cX5_targetOf 27 = .ok (.iadd, 1) := by decide +kernel
theorem dX5_targetOf_28 : decode cX5_targetOf 28 = .ok (.iconst 5, 1) := by decide +kernel
theorem dX5_targetOf_29 : decode cX5_targetOf 29 = .ok (.iload_n 2, 1) := by decide +kernel
theorem dX5_targetOf_30 : decode cX5_targetOf 30 = .ok (.imul, 1) := by decide +kernel
theorem dX5_targetOf_31 : decode cX5_targetOf 31 = .ok (.iadd, 1) := by decide +kernel
theorem dX5_targetOf_32 : decode cX5_targetOf 32 = .ok (.iconst 1, 1) := by decide +kernel
theorem dX5_targetOf_33 : decode cX5_targetOf 33 = .ok (.iadd, 1) := by decide +kernel
theorem dX5_targetOf_34 : decode cX5_targetOf 34 = .ok (.iload_n 3, 1) := by decide +kernel
theorem dX5_targetOf_35 : decode cX5_targetOf 35 = .ok (.iadd, 1) := by decide +kernel
theorem dX5_targetOf_36 : decode cX5_targetOf 36 = .ok (.iaload, 1) := by decide +kernel
theorem dX5_targetOf_37 : decode cX5_targetOf 37 = .ok (.goto 4, 3) := by decide +kernel
theorem dX5_targetOf_40 : decode cX5_targetOf 40 = .ok (.iconst (-1), 1) := by decide +kernel
theorem dX5_targetOf_41 : decode cX5_targetOf 41 = .ok (.ireturn, 1) := by decide +kernel
theorem dX5_algorithmOf_0 : decode cX5_algorithmOf 0 = .ok (.iload_n 1, 1) := by decide +kernel
theorem dX5_algorithmOf_1 : decode cX5_algorithmOf 1 = .ok (.invokestatic 101, 3) := by decide +kernel
theorem dX5_algorithmOf_4 : decode cX5_algorithmOf 4 = .ok (.ifCond .eq 17, 3) := by decide +kernel
theorem dX5_algorithmOf_7 : decode cX5_algorithmOf 7 = .ok (.aload_n 0, 1) := by decide +kernel
theorem dX5_algorithmOf_8 : decode cX5_algorithmOf 8 = .ok (.getfield 13, 3) := by decide +kernel
theorem dX5_algorithmOf_11 : decode cX5_algorithmOf 11 = .ok (.bipush 42, 2) := by decide +kernel
theorem dX5_algorithmOf_13 : decode cX5_algorithmOf 13 = .ok (.iload_n 1, 1) := by decide +kernel
theorem dX5_algorithmOf_14 : decode cX5_algorithmOf 14 = .ok (.imul, 1) := by decide +kernel
theorem dX5_algorithmOf_15 : decode cX5_algorithmOf 15 = .ok (.iconst 1, 1) := by decide +kernel
theorem dX5_algorithmOf_16 : decode cX5_algorithmOf 16 = .ok (.iadd, 1) := by decide +kernel
theorem dX5_algorithmOf_17 : decode cX5_algorithmOf 17 = .ok (.iaload, 1) := by decide +kernel
theorem dX5_algorithmOf_18 : decode cX5_algorithmOf 18 = .ok (.goto 4, 3) := by decide +kernel
theorem dX5_algorithmOf_21 : decode cX5_algorithmOf 21 = .ok (.iconst (-1), 1) := by decide +kernel
theorem dX5_algorithmOf_22 : decode cX5_algorithmOf 22 = .ok (.ireturn, 1) := by decide +kernel
theorem dX5_partOf_0 : decode cX5_partOf 0 = .ok (.iload_n 1, 1) := by decide +kernel
theorem dX5_partOf_1 : decode cX5_partOf 1 = .ok (.tableswitch 47 0 2 #[27, 33, 40], 27) := by decide +kernel
theorem dX5_partOf_28 : decode cX5_partOf 28 = .ok (.iload_n 0, 1) := by decide +kernel
theorem dX5_partOf_29 : decode cX5_partOf 29 = .ok (.sipush 128, 3) := by decide +kernel
theorem dX5_partOf_32 : decode cX5_partOf 32 = .ok (.idiv, 1) := by decide +kernel
theorem dX5_partOf_33 : decode cX5_partOf 33 = .ok (.ireturn, 1) := by decide +kernel
theorem dX5_partOf_34 : decode cX5_partOf 34 = .ok (.iload_n 0, 1) := by decide +kernel
theorem dX5_partOf_35 : decode cX5_partOf 35 = .ok (.bipush 32, 2) := by decide +kernel
theorem dX5_partOf_37 : decode cX5_partOf 37 = .ok (.idiv, 1) := by decide +kernel
theorem dX5_partOf_38 : decode cX5_partOf 38 = .ok (.iconst 4, 1) := by decide +kernel
theorem dX5_partOf_39 : decode cX5_partOf 39 = .ok (.irem, 1) := by decide +kernel
theorem dX5_partOf_40 : decode cX5_partOf 40 = .ok (.ireturn, 1) := by decide +kernel
theorem dX5_partOf_41 : decode cX5_partOf 41 = .ok (.iload_n 0, 1) := by decide +kernel
theorem dX5_partOf_42 : decode cX5_partOf 42 = .ok (.iconst 4, 1) := by decide +kernel
theorem dX5_partOf_43 : decode cX5_partOf 43 = .ok (.idiv, 1) := by decide +kernel
theorem dX5_partOf_44 : decode cX5_partOf 44 = .ok (.bipush 8, 2) := by decide +kernel
theorem dX5_partOf_46 : decode cX5_partOf 46 = .ok (.irem, 1) := by decide +kernel
theorem dX5_partOf_47 : decode cX5_partOf 47 = .ok (.ireturn, 1) := by decide +kernel
theorem dX5_partOf_48 : decode cX5_partOf 48 = .ok (.iload_n 0, 1) := by decide +kernel
theorem dX5_partOf_49 : decode cX5_partOf 49 = .ok (.iconst 4, 1) := by decide +kernel
theorem dX5_partOf_50 : decode cX5_partOf 50 = .ok (.irem, 1) := by decide +kernel
theorem dX5_partOf_51 : decode cX5_partOf 51 = .ok (.ireturn, 1) := by decide +kernel
theorem dX5_rulesFor_0 : decode cX5_rulesFor 0 = .ok (.iconst 0, 1) := by decide +kernel
theorem dX5_rulesFor_1 : decode cX5_rulesFor 1 = .ok (.istore_n 3, 1) := by decide +kernel
theorem dX5_rulesFor_2 : decode cX5_rulesFor 2 = .ok (.iconst 0, 1) := by decide +kernel
theorem dX5_rulesFor_3 : decode cX5_rulesFor 3 = .ok (.istore 4, 2) := by decide +kernel
theorem dX5_rulesFor_5 : decode cX5_rulesFor 5 = .ok (.iload 4, 2) := by decide +kernel
theorem dX5_rulesFor_7 : decode cX5_rulesFor 7 = .ok (.aload_n 0, 1) := by decide +kernel
theorem dX5_rulesFor_8 : decode cX5_rulesFor 8 = .ok (.getfield 13, 3) := by decide +kernel
theorem dX5_rulesFor_11 : decode cX5_rulesFor 11 = .ok (.bipush 42, 2) := by decide +kernel
theorem dX5_rulesFor_13 : decode cX5_rulesFor 13 = .ok (.iload_n 1, 1) := by decide +kernel
theorem dX5_rulesFor_14 : decode cX5_rulesFor 14 = .ok (.imul, 1) := by decide +kernel
theorem dX5_rulesFor_15 : decode cX5_rulesFor 15 = .ok (.iaload, 1) := by decide +kernel
theorem dX5_rulesFor_16 : decode cX5_rulesFor 16 = .ok (.if_icmp .ge 92, 3) := by decide +kernel
theorem dX5_rulesFor_19 : decode cX5_rulesFor 19 = .ok (.bipush 42, 2) := by decide +kernel
theorem dX5_rulesFor_21 : decode cX5_rulesFor 21 = .ok (.iload_n 1, 1) := by decide +kernel
theorem dX5_rulesFor_22 : decode cX5_rulesFor 22 = .ok (.imul, 1) := by decide +kernel
theorem dX5_rulesFor_23 : decode cX5_rulesFor 23 = .ok (.iconst 2, 1) := by decide +kernel
theorem dX5_rulesFor_24 : decode cX5_rulesFor 24 = .ok (.iadd, 1) := by decide +kernel
theorem dX5_rulesFor_25 : decode cX5_rulesFor 25 = .ok (.iconst 5, 1) := by decide +kernel
theorem dX5_rulesFor_26 : decode cX5_rulesFor 26 = .ok (.iload 4, 2) := by decide +kernel
theorem dX5_rulesFor_28 : decode cX5_rulesFor 28 = .ok (.imul, 1) := by decide +kernel
theorem dX5_rulesFor_29 : decode cX5_rulesFor 29 = .ok (.iadd, 1) := by decide +kernel
theorem dX5_rulesFor_30 : decode cX5_rulesFor 30 = .ok (.iconst 1, 1) := by decide +kernel
theorem dX5_rulesFor_31 : decode cX5_rulesFor 31 = .ok (.iadd, 1) := by decide +kernel
theorem dX5_rulesFor_32 : decode cX5_rulesFor 32 = .ok (.istore 5, 2) := by decide +kernel
theorem dX5_rulesFor_34 : decode cX5_rulesFor 34 = .ok (.iconst 1, 1) := by decide +kernel
theorem dX5_rulesFor_35 : decode cX5_rulesFor 35 = .ok (.istore 6, 2) := by decide +kernel
theorem dX5_rulesFor_37 : decode cX5_rulesFor 37 = .ok (.iconst 0, 1) := by decide +kernel
theorem dX5_rulesFor_38 : decode cX5_rulesFor 38 = .ok (.istore 7, 2) := by decide +kernel
theorem dX5_rulesFor_40 : decode cX5_rulesFor 40 = .ok (.iload 7, 2) := by decide +kernel
theorem dX5_rulesFor_42 : decode cX5_rulesFor 42 = .ok (.iconst 4, 1) := by decide +kernel
theorem dX5_rulesFor_43 : decode cX5_rulesFor 43 = .ok (.if_icmp .ge 43, 3) := by decide +kernel
theorem dX5_rulesFor_46 : decode cX5_rulesFor 46 = .ok (.iload 6, 2) := by decide +kernel
theorem dX5_rulesFor_48 : decode cX5_rulesFor 48 = .ok (.ifCond .eq 29, 3) := by decide +kernel
theorem dX5_rulesFor_51 : decode cX5_rulesFor 51 = .ok (.aload_n 0, 1) := by decide +kernel
theorem dX5_rulesFor_52 : decode cX5_rulesFor 52 = .ok (.getfield 13, 3) := by decide +kernel
theorem dX5_rulesFor_55 : decode cX5_rulesFor 55 = .ok (.iload 5, 2) := by decide +kernel
theorem dX5_rulesFor_57 : decode cX5_rulesFor 57 = .ok (.iload 7, 2) := by decide +kernel
theorem dX5_rulesFor_59 : decode cX5_rulesFor 59 = .ok (.iadd, 1) := by decide +kernel
theorem dX5_rulesFor_60 : decode cX5_rulesFor 60 = .ok (.iaload, 1) := by decide +kernel
theorem dX5_rulesFor_61 : decode cX5_rulesFor 61 = .ok (.iload_n 2, 1) := by decide +kernel
theorem dX5_rulesFor_62 : decode cX5_rulesFor 62 = .ok (.iload 7, 2) := by decide +kernel
theorem dX5_rulesFor_64 : decode cX5_rulesFor 64 = .ok (.invokestatic 118, 3) := by decide +kernel
theorem dX5_rulesFor_67 : decode cX5_rulesFor 67 = .ok (.invokestatic 67, 3) := by decide +kernel
theorem dX5_rulesFor_70 : decode cX5_rulesFor 70 = .ok (.ifCond .eq 7, 3) := by decide +kernel
theorem dX5_rulesFor_73 : decode cX5_rulesFor 73 = .ok (.iconst 1, 1) := by decide +kernel
theorem dX5_rulesFor_74 : decode cX5_rulesFor 74 = .ok (.goto 4, 3) := by decide +kernel
theorem dX5_rulesFor_77 : decode cX5_rulesFor 77 = .ok (.iconst 0, 1) := by decide +kernel
theorem dX5_rulesFor_78 : decode cX5_rulesFor 78 = .ok (.istore 6, 2) := by decide +kernel
theorem dX5_rulesFor_80 : decode cX5_rulesFor 80 = .ok (.iinc 7 1, 3) := by decide +kernel
theorem dX5_rulesFor_83 : decode cX5_rulesFor 83 = .ok (.goto (-43), 3) := by decide +kernel
theorem dX5_rulesFor_86 : decode cX5_rulesFor 86 = .ok (.iload_n 3, 1) := by decide +kernel
theorem dX5_rulesFor_87 : decode cX5_rulesFor 87 = .ok (.iload 6, 2) := by decide +kernel
theorem dX5_rulesFor_89 : decode cX5_rulesFor 89 = .ok (.ifCond .eq 10, 3) := by decide +kernel
theorem dX5_rulesFor_92 : decode cX5_rulesFor 92 = .ok (.iconst 1, 1) := by decide +kernel
theorem dX5_rulesFor_93 : decode cX5_rulesFor 93 = .ok (.iload 4, 2) := by decide +kernel
theorem dX5_rulesFor_95 : decode cX5_rulesFor 95 = .ok (.ishl, 1) := by decide +kernel
theorem dX5_rulesFor_96 : decode cX5_rulesFor 96 = .ok (.goto 4, 3) := by decide +kernel
theorem dX5_rulesFor_99 : decode cX5_rulesFor 99 = .ok (.iconst 0, 1) := by decide +kernel
theorem dX5_rulesFor_100 : decode cX5_rulesFor 100 = .ok (.ior, 1) := by decide +kernel
theorem dX5_rulesFor_101 : decode cX5_rulesFor 101 = .ok (.istore_n 3, 1) := by decide +kernel
theorem dX5_rulesFor_102 : decode cX5_rulesFor 102 = .ok (.iinc 4 1, 3) := by decide +kernel
theorem dX5_rulesFor_105 : decode cX5_rulesFor 105 = .ok (.goto (-100), 3) := by decide +kernel
theorem dX5_rulesFor_108 : decode cX5_rulesFor 108 = .ok (.iload_n 3, 1) := by decide +kernel
theorem dX5_rulesFor_109 : decode cX5_rulesFor 109 = .ok (.ireturn, 1) := by decide +kernel
theorem dX5_bits_0 : decode cX5_bits 0 = .ok (.iconst 0, 1) := by decide +kernel
theorem dX5_bits_1 : decode cX5_bits 1 = .ok (.istore_n 1, 1) := by decide +kernel
theorem dX5_bits_2 : decode cX5_bits 2 = .ok (.iconst 0, 1) := by decide +kernel
theorem dX5_bits_3 : decode cX5_bits 3 = .ok (.istore_n 2, 1) := by decide +kernel
theorem dX5_bits_4 : decode cX5_bits 4 = .ok (.iload_n 2, 1) := by decide +kernel
theorem dX5_bits_5 : decode cX5_bits 5 = .ok (.bipush 8, 2) := by decide +kernel
theorem dX5_bits_7 : decode cX5_bits 7 = .ok (.if_icmp .ge 17, 3) := by decide +kernel
theorem dX5_bits_10 : decode cX5_bits 10 = .ok (.iload_n 1, 1) := by decide +kernel
theorem dX5_bits_11 : decode cX5_bits 11 = .ok (.iload_n 0, 1) := by decide +kernel
theorem dX5_bits_12 : decode cX5_bits 12 = .ok (.iload_n 2, 1) := by decide +kernel
theorem dX5_bits_13 : decode cX5_bits 13 = .ok (.ishr, 1) := by decide +kernel
theorem dX5_bits_14 : decode cX5_bits 14 = .ok (.iconst 1, 1) := by decide +kernel
theorem dX5_bits_15 : decode cX5_bits 15 = .ok (.iand, 1) := by decide +kernel
theorem dX5_bits_16 : decode cX5_bits 16 = .ok (.iadd, 1) := by decide +kernel
theorem dX5_bits_17 : decode cX5_bits 17 = .ok (.istore_n 1, 1) := by decide +kernel
theorem dX5_bits_18 : decode cX5_bits 18 = .ok (.iinc 2 1, 3) := by decide +kernel
theorem dX5_bits_21 : decode cX5_bits 21 = .ok (.goto (-17), 3) := by decide +kernel
theorem dX5_bits_24 : decode cX5_bits 24 = .ok (.iload_n 1, 1) := by decide +kernel
theorem dX5_bits_25 : decode cX5_bits 25 = .ok (.ireturn, 1) := by decide +kernel
theorem dX5_permits_0 : decode cX5_permits 0 = .ok (.iconst 0, 1) := by decide +kernel
theorem dX5_permits_1 : decode cX5_permits 1 = .ok (.istore_n 2, 1) := by decide +kernel
theorem dX5_permits_2 : decode cX5_permits 2 = .ok (.iconst 0, 1) := by decide +kernel
theorem dX5_permits_3 : decode cX5_permits 3 = .ok (.istore_n 3, 1) := by decide +kernel
theorem dX5_permits_4 : decode cX5_permits 4 = .ok (.iload_n 3, 1) := by decide +kernel
theorem dX5_permits_5 : decode cX5_permits 5 = .ok (.aload_n 0, 1) := by decide +kernel
theorem dX5_permits_6 : decode cX5_permits 6 = .ok (.getfield 13, 3) := by decide +kernel
theorem dX5_permits_9 : decode cX5_permits 9 = .ok (.bipush 42, 2) := by decide +kernel
theorem dX5_permits_11 : decode cX5_permits 11 = .ok (.iload_n 1, 1) := by decide +kernel
theorem dX5_permits_12 : decode cX5_permits 12 = .ok (.imul, 1) := by decide +kernel
theorem dX5_permits_13 : decode cX5_permits 13 = .ok (.iaload, 1) := by decide +kernel
theorem dX5_permits_14 : decode cX5_permits 14 = .ok (.if_icmp .ge 37, 3) := by decide +kernel
theorem dX5_permits_17 : decode cX5_permits 17 = .ok (.iload_n 2, 1) := by decide +kernel
theorem dX5_permits_18 : decode cX5_permits 18 = .ok (.aload_n 0, 1) := by decide +kernel
theorem dX5_permits_19 : decode cX5_permits 19 = .ok (.getfield 13, 3) := by decide +kernel
theorem dX5_permits_22 : decode cX5_permits 22 = .ok (.bipush 42, 2) := by decide +kernel
theorem dX5_permits_24 : decode cX5_permits 24 = .ok (.iload_n 1, 1) := by decide +kernel
theorem dX5_permits_25 : decode cX5_permits 25 = .ok (.imul, 1) := by decide +kernel
theorem dX5_permits_26 : decode cX5_permits 26 = .ok (.iconst 2, 1) := by decide +kernel
theorem dX5_permits_27 : decode cX5_permits 27 = .ok (.iadd, 1) := by decide +kernel
theorem dX5_permits_28 : decode cX5_permits 28 = .ok (.iconst 5, 1) := by decide +kernel
theorem dX5_permits_29 : decode cX5_permits 29 = .ok (.iload_n 3, 1) := by decide +kernel
theorem dX5_permits_30 : decode cX5_permits 30 = .ok (.imul, 1) := by decide +kernel
theorem dX5_permits_31 : decode cX5_permits 31 = .ok (.iadd, 1) := by decide +kernel
theorem dX5_permits_32 : decode cX5_permits 32 = .ok (.iaload, 1) := by decide +kernel
theorem dX5_permits_33 : decode cX5_permits 33 = .ok (.ifCond .ne 9, 3) := by decide +kernel
theorem dX5_permits_36 : decode cX5_permits 36 = .ok (.iconst 1, 1) := by decide +kernel
theorem dX5_permits_37 : decode cX5_permits 37 = .ok (.iload_n 3, 1) := by decide +kernel
theorem dX5_permits_38 : decode cX5_permits 38 = .ok (.ishl, 1) := by decide +kernel
theorem dX5_permits_39 : decode cX5_permits 39 = .ok (.goto 4, 3) := by decide +kernel
theorem dX5_permits_42 : decode cX5_permits 42 = .ok (.iconst 0, 1) := by decide +kernel
theorem dX5_permits_43 : decode cX5_permits 43 = .ok (.ior, 1) := by decide +kernel
theorem dX5_permits_44 : decode cX5_permits 44 = .ok (.istore_n 2, 1) := by decide +kernel
theorem dX5_permits_45 : decode cX5_permits 45 = .ok (.iinc 3 1, 3) := by decide +kernel
theorem dX5_permits_48 : decode cX5_permits 48 = .ok (.goto (-44), 3) := by decide +kernel
theorem dX5_permits_51 : decode cX5_permits 51 = .ok (.iload_n 2, 1) := by decide +kernel
theorem dX5_permits_52 : decode cX5_permits 52 = .ok (.ireturn, 1) := by decide +kernel
theorem dX5_decided_0 : decode cX5_decided 0 = .ok (.iload_n 1, 1) := by decide +kernel
theorem dX5_decided_1 : decode cX5_decided 1 = .ok (.ifCond .ne 5, 3) := by decide +kernel
theorem dX5_decided_4 : decode cX5_decided 4 = .ok (.iconst 2, 1) := by decide +kernel
theorem dX5_decided_5 : decode cX5_decided 5 = .ok (.ireturn, 1) := by decide +kernel
theorem dX5_decided_6 : decode cX5_decided 6 = .ok (.iload_n 1, 1) := by decide +kernel
theorem dX5_decided_7 : decode cX5_decided 7 = .ok (.iload_n 2, 1) := by decide +kernel
theorem dX5_decided_8 : decode cX5_decided 8 = .ok (.iand, 1) := by decide +kernel
theorem dX5_decided_9 : decode cX5_decided 9 = .ok (.invokestatic 122, 3) := by decide +kernel
theorem dX5_decided_12 : decode cX5_decided 12 = .ok (.istore_n 3, 1) := by decide +kernel
theorem dX5_decided_13 : decode cX5_decided 13 = .ok (.iload_n 1, 1) := by decide +kernel
theorem dX5_decided_14 : decode cX5_decided 14 = .ok (.invokestatic 122, 3) := by decide +kernel
theorem dX5_decided_17 : decode cX5_decided 17 = .ok (.iload_n 3, 1) := by decide +kernel
theorem dX5_decided_18 : decode cX5_decided 18 = .ok (.isub, 1) := by decide +kernel
theorem dX5_decided_19 : decode cX5_decided 19 = .ok (.istore 4, 2) := by decide +kernel
theorem dX5_decided_21 : decode cX5_decided 21 = .ok (.iload_n 0, 1) := by decide +kernel
theorem dX5_decided_22 : decode cX5_decided 22 = .ok (.tableswitch 93 0 3 #[30, 49, 60, 70], 30) := by decide +kernel
theorem dX5_decided_52 : decode cX5_decided 52 = .ok (.iload_n 1, 1) := by decide +kernel
theorem dX5_decided_53 : decode cX5_decided 53 = .ok (.iload_n 1, 1) := by decide +kernel
theorem dX5_decided_54 : decode cX5_decided 54 = .ok (.ineg, 1) := by decide +kernel
theorem dX5_decided_55 : decode cX5_decided 55 = .ok (.iand, 1) := by decide +kernel
theorem dX5_decided_56 : decode cX5_decided 56 = .ok (.istore 5, 2) := by decide +kernel
theorem dX5_decided_58 : decode cX5_decided 58 = .ok (.iload 5, 2) := by decide +kernel
theorem dX5_decided_60 : decode cX5_decided 60 = .ok (.iload_n 2, 1) := by decide +kernel
theorem dX5_decided_61 : decode cX5_decided 61 = .ok (.iand, 1) := by decide +kernel
theorem dX5_decided_62 : decode cX5_decided 62 = .ok (.ifCond .eq 7, 3) := by decide +kernel
theorem dX5_decided_65 : decode cX5_decided 65 = .ok (.iconst 0, 1) := by decide +kernel
theorem dX5_decided_66 : decode cX5_decided 66 = .ok (.goto 4, 3) := by decide +kernel
theorem dX5_decided_69 : decode cX5_decided 69 = .ok (.iconst 1, 1) := by decide +kernel
theorem dX5_decided_70 : decode cX5_decided 70 = .ok (.ireturn, 1) := by decide +kernel
theorem dX5_decided_71 : decode cX5_decided 71 = .ok (.iload 4, 2) := by decide +kernel
theorem dX5_decided_73 : decode cX5_decided 73 = .ok (.ifCond .le 7, 3) := by decide +kernel
theorem dX5_decided_76 : decode cX5_decided 76 = .ok (.iconst 1, 1) := by decide +kernel
theorem dX5_decided_77 : decode cX5_decided 77 = .ok (.goto 4, 3) := by decide +kernel
theorem dX5_decided_80 : decode cX5_decided 80 = .ok (.iconst 0, 1) := by decide +kernel
theorem dX5_decided_81 : decode cX5_decided 81 = .ok (.ireturn, 1) := by decide +kernel
theorem dX5_decided_82 : decode cX5_decided 82 = .ok (.iload_n 3, 1) := by decide +kernel
theorem dX5_decided_83 : decode cX5_decided 83 = .ok (.ifCond .le 7, 3) := by decide +kernel
theorem dX5_decided_86 : decode cX5_decided 86 = .ok (.iconst 0, 1) := by decide +kernel
theorem dX5_decided_87 : decode cX5_decided 87 = .ok (.goto 4, 3) := by decide +kernel
theorem dX5_decided_90 : decode cX5_decided 90 = .ok (.iconst 1, 1) := by decide +kernel
theorem dX5_decided_91 : decode cX5_decided 91 = .ok (.ireturn, 1) := by decide +kernel
theorem dX5_decided_92 : decode cX5_decided 92 = .ok (.iload_n 3, 1) := by decide +kernel
theorem dX5_decided_93 : decode cX5_decided 93 = .ok (.iload 4, 2) := by decide +kernel
theorem dX5_decided_95 : decode cX5_decided 95 = .ok (.iadd, 1) := by decide +kernel
theorem dX5_decided_96 : decode cX5_decided 96 = .ok (.iconst 1, 1) := by decide +kernel
theorem dX5_decided_97 : decode cX5_decided 97 = .ok (.if_icmp .le 7, 3) := by decide +kernel
theorem dX5_decided_100 : decode cX5_decided 100 = .ok (.iconst 3, 1) := by decide +kernel
theorem dX5_decided_101 : decode cX5_decided 101 = .ok (.goto 13, 3) := by decide +kernel
theorem dX5_decided_104 : decode cX5_decided 104 = .ok (.iload_n 3, 1) := by decide +kernel
theorem dX5_decided_105 : decode cX5_decided 105 = .ok (.iconst 1, 1) := by decide +kernel
theorem dX5_decided_106 : decode cX5_decided 106 = .ok (.if_icmp .ne 7, 3) := by decide +kernel
theorem dX5_decided_109 : decode cX5_decided 109 = .ok (.iconst 0, 1) := by decide +kernel
theorem dX5_decided_110 : decode cX5_decided 110 = .ok (.goto 4, 3) := by decide +kernel
theorem dX5_decided_113 : decode cX5_decided 113 = .ok (.iconst 1, 1) := by decide +kernel
theorem dX5_decided_114 : decode cX5_decided 114 = .ok (.ireturn, 1) := by decide +kernel
theorem dX5_decided_115 : decode cX5_decided 115 = .ok (.iload_n 3, 1) := by decide +kernel
theorem dX5_decided_116 : decode cX5_decided 116 = .ok (.iload 4, 2) := by decide +kernel
theorem dX5_decided_118 : decode cX5_decided 118 = .ok (.if_icmp .le 7, 3) := by decide +kernel
theorem dX5_decided_121 : decode cX5_decided 121 = .ok (.iconst 0, 1) := by decide +kernel
theorem dX5_decided_122 : decode cX5_decided 122 = .ok (.goto 14, 3) := by decide +kernel
theorem dX5_decided_125 : decode cX5_decided 125 = .ok (.iload_n 3, 1) := by decide +kernel
theorem dX5_decided_126 : decode cX5_decided 126 = .ok (.iload 4, 2) := by decide +kernel
theorem dX5_decided_128 : decode cX5_decided 128 = .ok (.if_icmp .ge 7, 3) := by decide +kernel
theorem dX5_decided_131 : decode cX5_decided 131 = .ok (.iconst 1, 1) := by decide +kernel
theorem dX5_decided_132 : decode cX5_decided 132 = .ok (.goto 4, 3) := by decide +kernel
theorem dX5_decided_135 : decode cX5_decided 135 = .ok (.iconst 3, 1) := by decide +kernel
theorem dX5_decided_136 : decode cX5_decided 136 = .ok (.ireturn, 1) := by decide +kernel
theorem dX5_decision_0 : decode cX5_decision 0 = .ok (.aload_n 0, 1) := by decide +kernel
theorem dX5_decision_1 : decode cX5_decision 1 = .ok (.getfield 13, 3) := by decide +kernel
theorem dX5_decision_4 : decode cX5_decision 4 = .ok (.bipush 42, 2) := by decide +kernel
theorem dX5_decision_6 : decode cX5_decision 6 = .ok (.iload_n 1, 1) := by decide +kernel
theorem dX5_decision_7 : decode cX5_decision 7 = .ok (.imul, 1) := by decide +kernel
theorem dX5_decision_8 : decode cX5_decision 8 = .ok (.iconst 1, 1) := by decide +kernel
theorem dX5_decision_9 : decode cX5_decision 9 = .ok (.iadd, 1) := by decide +kernel
theorem dX5_decision_10 : decode cX5_decision 10 = .ok (.iaload, 1) := by decide +kernel
theorem dX5_decision_11 : decode cX5_decision 11 = .ok (.aload_n 0, 1) := by decide +kernel
theorem dX5_decision_12 : decode cX5_decision 12 = .ok (.iload_n 1, 1) := by decide +kernel
theorem dX5_decision_13 : decode cX5_decision 13 = .ok (.iload_n 2, 1) := by decide +kernel
theorem dX5_decision_14 : decode cX5_decision 14 = .ok (.invokevirtual 125, 3) := by decide +kernel
theorem dX5_decision_17 : decode cX5_decision 17 = .ok (.aload_n 0, 1) := by decide +kernel
theorem dX5_decision_18 : decode cX5_decision 18 = .ok (.iload_n 1, 1) := by decide +kernel
theorem dX5_decision_19 : decode cX5_decision 19 = .ok (.invokevirtual 128, 3) := by decide +kernel
theorem dX5_decision_22 : decode cX5_decision 22 = .ok (.invokestatic 131, 3) := by decide +kernel
theorem dX5_decision_25 : decode cX5_decision 25 = .ok (.ireturn, 1) := by decide +kernel
theorem dX5_isRequest_0 : decode cX5_isRequest 0 = .ok (.iload_n 0, 1) := by decide +kernel
theorem dX5_isRequest_1 : decode cX5_isRequest 1 = .ok (.iconst 0, 1) := by decide +kernel
theorem dX5_isRequest_2 : decode cX5_isRequest 2 = .ok (.sipush 1023, 3) := by decide +kernel
theorem dX5_isRequest_5 : decode cX5_isRequest 5 = .ok (.invokestatic 41, 3) := by decide +kernel
theorem dX5_isRequest_8 : decode cX5_isRequest 8 = .ok (.ireturn, 1) := by decide +kernel
theorem dX5_decide_0 : decode cX5_decide 0 = .ok (.iload_n 1, 1) := by decide +kernel
theorem dX5_decide_1 : decode cX5_decide 1 = .ok (.invokestatic 101, 3) := by decide +kernel
theorem dX5_decide_4 : decode cX5_decide 4 = .ok (.ifCond .eq 19, 3) := by decide +kernel
theorem dX5_decide_7 : decode cX5_decide 7 = .ok (.iload_n 2, 1) := by decide +kernel
theorem dX5_decide_8 : decode cX5_decide 8 = .ok (.invokestatic 135, 3) := by decide +kernel
theorem dX5_decide_11 : decode cX5_decide 11 = .ok (.ifCond .eq 12, 3) := by decide +kernel
theorem dX5_decide_14 : decode cX5_decide 14 = .ok (.aload_n 0, 1) := by decide +kernel
theorem dX5_decide_15 : decode cX5_decide 15 = .ok (.iload_n 1, 1) := by decide +kernel
theorem dX5_decide_16 : decode cX5_decide 16 = .ok (.iload_n 2, 1) := by decide +kernel
theorem dX5_decide_17 : decode cX5_decide 17 = .ok (.invokevirtual 138, 3) := by decide +kernel
theorem dX5_decide_20 : decode cX5_decide 20 = .ok (.goto 4, 3) := by decide +kernel
theorem dX5_decide_23 : decode cX5_decide 23 = .ok (.iconst (-1), 1) := by decide +kernel
theorem dX5_decide_24 : decode cX5_decide 24 = .ok (.ireturn, 1) := by decide +kernel
theorem dX5_decisionCount_0 : decode cX5_decisionCount 0 = .ok (.iload_n 1, 1) := by decide +kernel
theorem dX5_decisionCount_1 : decode cX5_decisionCount 1 = .ok (.invokestatic 101, 3) := by decide +kernel
theorem dX5_decisionCount_4 : decode cX5_decisionCount 4 = .ok (.ifCond .eq 12, 3) := by decide +kernel
theorem dX5_decisionCount_7 : decode cX5_decisionCount 7 = .ok (.iload_n 2, 1) := by decide +kernel
theorem dX5_decisionCount_8 : decode cX5_decisionCount 8 = .ok (.iconst 0, 1) := by decide +kernel
theorem dX5_decisionCount_9 : decode cX5_decisionCount 9 = .ok (.iconst 3, 1) := by decide +kernel
theorem dX5_decisionCount_10 : decode cX5_decisionCount 10 = .ok (.invokestatic 41, 3) := by decide +kernel
theorem dX5_decisionCount_13 : decode cX5_decisionCount 13 = .ok (.ifCond .ne 5, 3) := by decide +kernel
theorem dX5_decisionCount_16 : decode cX5_decisionCount 16 = .ok (.iconst (-1), 1) := by decide +kernel
theorem dX5_decisionCount_17 : decode cX5_decisionCount 17 = .ok (.ireturn, 1) := by decide +kernel
theorem dX5_decisionCount_18 : decode cX5_decisionCount 18 = .ok (.iconst 0, 1) := by decide +kernel
theorem dX5_decisionCount_19 : decode cX5_decisionCount 19 = .ok (.istore_n 3, 1) := by decide +kernel
theorem dX5_decisionCount_20 : decode cX5_decisionCount 20 = .ok (.iconst 0, 1) := by decide +kernel
theorem dX5_decisionCount_21 : decode cX5_decisionCount 21 = .ok (.istore 4, 2) := by decide +kernel
theorem dX5_decisionCount_23 : decode cX5_decisionCount 23 = .ok (.iload 4, 2) := by decide +kernel
theorem dX5_decisionCount_25 : decode cX5_decisionCount 25 = .ok (.sipush 1024, 3) := by decide +kernel
theorem dX5_decisionCount_28 : decode cX5_decisionCount 28 = .ok (.if_icmp .ge 28, 3) := by decide +kernel
theorem dX5_decisionCount_31 : decode cX5_decisionCount 31 = .ok (.iload_n 3, 1) := by decide +kernel
theorem dX5_decisionCount_32 : decode cX5_decisionCount 32 = .ok (.aload_n 0, 1) := by decide +kernel
theorem dX5_decisionCount_33 : decode cX5_decisionCount 33 = .ok (.iload_n 1, 1) := by decide +kernel
theorem dX5_decisionCount_34 : decode cX5_decisionCount 34 = .ok (.iload 4, 2) := by decide +kernel
theorem dX5_decisionCount_36 : decode cX5_decisionCount 36 = .ok (.invokevirtual 138, 3) := by decide +kernel
theorem dX5_decisionCount_39 : decode cX5_decisionCount 39 = .ok (.iload_n 2, 1) := by decide +kernel
theorem dX5_decisionCount_40 : decode cX5_decisionCount 40 = .ok (.if_icmp .ne 7, 3) := by decide +kernel
theorem dX5_decisionCount_43 : decode cX5_decisionCount 43 = .ok (.iconst 1, 1) := by decide +kernel
theorem dX5_decisionCount_44 : decode cX5_decisionCount 44 = .ok (.goto 4, 3) := by decide +kernel
theorem dX5_decisionCount_47 : decode cX5_decisionCount 47 = .ok (.iconst 0, 1) := by decide +kernel
theorem dX5_decisionCount_48 : decode cX5_decisionCount 48 = .ok (.iadd, 1) := by decide +kernel
theorem dX5_decisionCount_49 : decode cX5_decisionCount 49 = .ok (.istore_n 3, 1) := by decide +kernel
theorem dX5_decisionCount_50 : decode cX5_decisionCount 50 = .ok (.iinc 4 1, 3) := by decide +kernel
theorem dX5_decisionCount_53 : decode cX5_decisionCount 53 = .ok (.goto (-30), 3) := by decide +kernel
theorem dX5_decisionCount_56 : decode cX5_decisionCount 56 = .ok (.iload_n 3, 1) := by decide +kernel
theorem dX5_decisionCount_57 : decode cX5_decisionCount 57 = .ok (.ireturn, 1) := by decide +kernel
theorem dX5_applicableRules_0 : decode cX5_applicableRules 0 = .ok (.iload_n 1, 1) := by decide +kernel
theorem dX5_applicableRules_1 : decode cX5_applicableRules 1 = .ok (.invokestatic 101, 3) := by decide +kernel
theorem dX5_applicableRules_4 : decode cX5_applicableRules 4 = .ok (.ifCond .eq 22, 3) := by decide +kernel
theorem dX5_applicableRules_7 : decode cX5_applicableRules 7 = .ok (.iload_n 2, 1) := by decide +kernel
theorem dX5_applicableRules_8 : decode cX5_applicableRules 8 = .ok (.invokestatic 135, 3) := by decide +kernel
theorem dX5_applicableRules_11 : decode cX5_applicableRules 11 = .ok (.ifCond .eq 15, 3) := by decide +kernel
theorem dX5_applicableRules_14 : decode cX5_applicableRules 14 = .ok (.aload_n 0, 1) := by decide +kernel
theorem dX5_applicableRules_15 : decode cX5_applicableRules 15 = .ok (.iload_n 1, 1) := by decide +kernel
theorem dX5_applicableRules_16 : decode cX5_applicableRules 16 = .ok (.iload_n 2, 1) := by decide +kernel
theorem dX5_applicableRules_17 : decode cX5_applicableRules 17 = .ok (.invokevirtual 125, 3) := by decide +kernel
theorem dX5_applicableRules_20 : decode cX5_applicableRules 20 = .ok (.invokestatic 122, 3) := by decide +kernel
theorem dX5_applicableRules_23 : decode cX5_applicableRules 23 = .ok (.goto 4, 3) := by decide +kernel
theorem dX5_applicableRules_26 : decode cX5_applicableRules 26 = .ok (.iconst (-1), 1) := by decide +kernel
theorem dX5_applicableRules_27 : decode cX5_applicableRules 27 = .ok (.ireturn, 1) := by decide +kernel
theorem dX5_gains_0 : decode cX5_gains 0 = .ok (.aload_n 0, 1) := by decide +kernel
theorem dX5_gains_1 : decode cX5_gains 1 = .ok (.iconst 1, 1) := by decide +kernel
theorem dX5_gains_2 : decode cX5_gains 2 = .ok (.iload_n 1, 1) := by decide +kernel
theorem dX5_gains_3 : decode cX5_gains 3 = .ok (.invokevirtual 138, 3) := by decide +kernel
theorem dX5_gains_6 : decode cX5_gains 6 = .ok (.ifCond .ne 16, 3) := by decide +kernel
theorem dX5_gains_9 : decode cX5_gains 9 = .ok (.aload_n 0, 1) := by decide +kernel
theorem dX5_gains_10 : decode cX5_gains 10 = .ok (.iconst 0, 1) := by decide +kernel
theorem dX5_gains_11 : decode cX5_gains 11 = .ok (.iload_n 1, 1) := by decide +kernel
theorem dX5_gains_12 : decode cX5_gains 12 = .ok (.invokevirtual 138, 3) := by decide +kernel
theorem dX5_gains_15 : decode cX5_gains 15 = .ok (.ifCond .eq 7, 3) := by decide +kernel
theorem dX5_gains_18 : decode cX5_gains 18 = .ok (.iconst 1, 1) := by decide +kernel
theorem dX5_gains_19 : decode cX5_gains 19 = .ok (.goto 4, 3) := by decide +kernel
theorem dX5_gains_22 : decode cX5_gains 22 = .ok (.iconst 0, 1) := by decide +kernel
theorem dX5_gains_23 : decode cX5_gains 23 = .ok (.ireturn, 1) := by decide +kernel
theorem dX5_loses_0 : decode cX5_loses 0 = .ok (.aload_n 0, 1) := by decide +kernel
theorem dX5_loses_1 : decode cX5_loses 1 = .ok (.iconst 0, 1) := by decide +kernel
theorem dX5_loses_2 : decode cX5_loses 2 = .ok (.iload_n 1, 1) := by decide +kernel
theorem dX5_loses_3 : decode cX5_loses 3 = .ok (.invokevirtual 138, 3) := by decide +kernel
theorem dX5_loses_6 : decode cX5_loses 6 = .ok (.ifCond .ne 16, 3) := by decide +kernel
theorem dX5_loses_9 : decode cX5_loses 9 = .ok (.aload_n 0, 1) := by decide +kernel
theorem dX5_loses_10 : decode cX5_loses 10 = .ok (.iconst 1, 1) := by decide +kernel
theorem dX5_loses_11 : decode cX5_loses 11 = .ok (.iload_n 1, 1) := by decide +kernel
theorem dX5_loses_12 : decode cX5_loses 12 = .ok (.invokevirtual 138, 3) := by decide +kernel
theorem dX5_loses_15 : decode cX5_loses 15 = .ok (.ifCond .eq 7, 3) := by decide +kernel
theorem dX5_loses_18 : decode cX5_loses 18 = .ok (.iconst 1, 1) := by decide +kernel
theorem dX5_loses_19 : decode cX5_loses 19 = .ok (.goto 4, 3) := by decide +kernel
theorem dX5_loses_22 : decode cX5_loses 22 = .ok (.iconst 0, 1) := by decide +kernel
theorem dX5_loses_23 : decode cX5_loses 23 = .ok (.ireturn, 1) := by decide +kernel
theorem dX5_gainCount_0 : decode cX5_gainCount 0 = .ok (.iconst 0, 1) := by decide +kernel
theorem dX5_gainCount_1 : decode cX5_gainCount 1 = .ok (.istore_n 1, 1) := by decide +kernel
theorem dX5_gainCount_2 : decode cX5_gainCount 2 = .ok (.iconst 0, 1) := by decide +kernel
theorem dX5_gainCount_3 : decode cX5_gainCount 3 = .ok (.istore_n 2, 1) := by decide +kernel
theorem dX5_gainCount_4 : decode cX5_gainCount 4 = .ok (.iload_n 2, 1) := by decide +kernel
theorem dX5_gainCount_5 : decode cX5_gainCount 5 = .ok (.sipush 1024, 3) := by decide +kernel
theorem dX5_gainCount_8 : decode cX5_gainCount 8 = .ok (.if_icmp .ge 25, 3) := by decide +kernel
theorem dX5_gainCount_11 : decode cX5_gainCount 11 = .ok (.iload_n 1, 1) := by decide +kernel
theorem dX5_gainCount_12 : decode cX5_gainCount 12 = .ok (.aload_n 0, 1) := by decide +kernel
theorem dX5_gainCount_13 : decode cX5_gainCount 13 = .ok (.iload_n 2, 1) := by decide +kernel
theorem dX5_gainCount_14 : decode cX5_gainCount 14 = .ok (.invokevirtual 141, 3) := by decide +kernel
theorem dX5_gainCount_17 : decode cX5_gainCount 17 = .ok (.ifCond .eq 7, 3) := by decide +kernel
theorem dX5_gainCount_20 : decode cX5_gainCount 20 = .ok (.iconst 1, 1) := by decide +kernel
theorem dX5_gainCount_21 : decode cX5_gainCount 21 = .ok (.goto 4, 3) := by decide +kernel
theorem dX5_gainCount_24 : decode cX5_gainCount 24 = .ok (.iconst 0, 1) := by decide +kernel
theorem dX5_gainCount_25 : decode cX5_gainCount 25 = .ok (.iadd, 1) := by decide +kernel
theorem dX5_gainCount_26 : decode cX5_gainCount 26 = .ok (.istore_n 1, 1) := by decide +kernel
theorem dX5_gainCount_27 : decode cX5_gainCount 27 = .ok (.iinc 2 1, 3) := by decide +kernel
theorem dX5_gainCount_30 : decode cX5_gainCount 30 = .ok (.goto (-26), 3) := by decide +kernel
theorem dX5_gainCount_33 : decode cX5_gainCount 33 = .ok (.iload_n 1, 1) := by decide +kernel
theorem dX5_gainCount_34 : decode cX5_gainCount 34 = .ok (.ireturn, 1) := by decide +kernel
theorem dX5_lossCount_0 : decode cX5_lossCount 0 = .ok (.iconst 0, 1) := by decide +kernel
theorem dX5_lossCount_1 : decode cX5_lossCount 1 = .ok (.istore_n 1, 1) := by decide +kernel
theorem dX5_lossCount_2 : decode cX5_lossCount 2 = .ok (.iconst 0, 1) := by decide +kernel
theorem dX5_lossCount_3 : decode cX5_lossCount 3 = .ok (.istore_n 2, 1) := by decide +kernel
theorem dX5_lossCount_4 : decode cX5_lossCount 4 = .ok (.iload_n 2, 1) := by decide +kernel
theorem dX5_lossCount_5 : decode cX5_lossCount 5 = .ok (.sipush 1024, 3) := by decide +kernel
theorem dX5_lossCount_8 : decode cX5_lossCount 8 = .ok (.if_icmp .ge 25, 3) := by decide +kernel
theorem dX5_lossCount_11 : decode cX5_lossCount 11 = .ok (.iload_n 1, 1) := by decide +kernel
theorem dX5_lossCount_12 : decode cX5_lossCount 12 = .ok (.aload_n 0, 1) := by decide +kernel
theorem dX5_lossCount_13 : decode cX5_lossCount 13 = .ok (.iload_n 2, 1) := by decide +kernel
theorem dX5_lossCount_14 : decode cX5_lossCount 14 = .ok (.invokevirtual 144, 3) := by decide +kernel
theorem dX5_lossCount_17 : decode cX5_lossCount 17 = .ok (.ifCond .eq 7, 3) := by decide +kernel
theorem dX5_lossCount_20 : decode cX5_lossCount 20 = .ok (.iconst 1, 1) := by decide +kernel
theorem dX5_lossCount_21 : decode cX5_lossCount 21 = .ok (.goto 4, 3) := by decide +kernel
theorem dX5_lossCount_24 : decode cX5_lossCount 24 = .ok (.iconst 0, 1) := by decide +kernel
theorem dX5_lossCount_25 : decode cX5_lossCount 25 = .ok (.iadd, 1) := by decide +kernel
theorem dX5_lossCount_26 : decode cX5_lossCount 26 = .ok (.istore_n 1, 1) := by decide +kernel
theorem dX5_lossCount_27 : decode cX5_lossCount 27 = .ok (.iinc 2 1, 3) := by decide +kernel
theorem dX5_lossCount_30 : decode cX5_lossCount 30 = .ok (.goto (-26), 3) := by decide +kernel
theorem dX5_lossCount_33 : decode cX5_lossCount 33 = .ok (.iload_n 1, 1) := by decide +kernel
theorem dX5_lossCount_34 : decode cX5_lossCount 34 = .ok (.ireturn, 1) := by decide +kernel
theorem dX5_gainCountOf_0 : decode cX5_gainCountOf 0 = .ok (.iload_n 1, 1) := by decide +kernel
theorem dX5_gainCountOf_1 : decode cX5_gainCountOf 1 = .ok (.iconst 0, 1) := by decide +kernel
theorem dX5_gainCountOf_2 : decode cX5_gainCountOf 2 = .ok (.iconst 3, 1) := by decide +kernel
theorem dX5_gainCountOf_3 : decode cX5_gainCountOf 3 = .ok (.invokestatic 41, 3) := by decide +kernel
theorem dX5_gainCountOf_6 : decode cX5_gainCountOf 6 = .ok (.ifCond .eq 17, 3) := by decide +kernel
theorem dX5_gainCountOf_9 : decode cX5_gainCountOf 9 = .ok (.iload_n 2, 1) := by decide +kernel
theorem dX5_gainCountOf_10 : decode cX5_gainCountOf 10 = .ok (.iconst 0, 1) := by decide +kernel
theorem dX5_gainCountOf_11 : decode cX5_gainCountOf 11 = .ok (.iload_n 1, 1) := by decide +kernel
theorem dX5_gainCountOf_12 : decode cX5_gainCountOf 12 = .ok (.invokestatic 70, 3) := by decide +kernel
theorem dX5_gainCountOf_15 : decode cX5_gainCountOf 15 = .ok (.iconst 1, 1) := by decide +kernel
theorem dX5_gainCountOf_16 : decode cX5_gainCountOf 16 = .ok (.isub, 1) := by decide +kernel
theorem dX5_gainCountOf_17 : decode cX5_gainCountOf 17 = .ok (.invokestatic 41, 3) := by decide +kernel
theorem dX5_gainCountOf_20 : decode cX5_gainCountOf 20 = .ok (.ifCond .ne 5, 3) := by decide +kernel
theorem dX5_gainCountOf_23 : decode cX5_gainCountOf 23 = .ok (.iconst (-1), 1) := by decide +kernel
theorem dX5_gainCountOf_24 : decode cX5_gainCountOf 24 = .ok (.ireturn, 1) := by decide +kernel
theorem dX5_gainCountOf_25 : decode cX5_gainCountOf 25 = .ok (.iconst 0, 1) := by decide +kernel
theorem dX5_gainCountOf_26 : decode cX5_gainCountOf 26 = .ok (.istore_n 3, 1) := by decide +kernel
theorem dX5_gainCountOf_27 : decode cX5_gainCountOf 27 = .ok (.iconst 0, 1) := by decide +kernel
theorem dX5_gainCountOf_28 : decode cX5_gainCountOf 28 = .ok (.istore 4, 2) := by decide +kernel
theorem dX5_gainCountOf_30 : decode cX5_gainCountOf 30 = .ok (.iload 4, 2) := by decide +kernel
theorem dX5_gainCountOf_32 : decode cX5_gainCountOf 32 = .ok (.sipush 1024, 3) := by decide +kernel
theorem dX5_gainCountOf_35 : decode cX5_gainCountOf 35 = .ok (.if_icmp .ge 36, 3) := by decide +kernel
theorem dX5_gainCountOf_38 : decode cX5_gainCountOf 38 = .ok (.iload_n 3, 1) := by decide +kernel
theorem dX5_gainCountOf_39 : decode cX5_gainCountOf 39 = .ok (.iload 4, 2) := by decide +kernel
theorem dX5_gainCountOf_41 : decode cX5_gainCountOf 41 = .ok (.iload_n 1, 1) := by decide +kernel
theorem dX5_gainCountOf_42 : decode cX5_gainCountOf 42 = .ok (.invokestatic 118, 3) := by decide +kernel
theorem dX5_gainCountOf_45 : decode cX5_gainCountOf 45 = .ok (.iload_n 2, 1) := by decide +kernel
theorem dX5_gainCountOf_46 : decode cX5_gainCountOf 46 = .ok (.if_icmp .ne 16, 3) := by decide +kernel
theorem dX5_gainCountOf_49 : decode cX5_gainCountOf 49 = .ok (.aload_n 0, 1) := by decide +kernel
theorem dX5_gainCountOf_50 : decode cX5_gainCountOf 50 = .ok (.iload 4, 2) := by decide +kernel
theorem dX5_gainCountOf_52 : decode cX5_gainCountOf 52 = .ok (.invokevirtual 141, 3) := by decide +kernel
theorem dX5_gainCountOf_55 : decode cX5_gainCountOf 55 = .ok (.ifCond .eq 7, 3) := by decide +kernel
theorem dX5_gainCountOf_58 : decode cX5_gainCountOf 58 = .ok (.iconst 1, 1) := by decide +kernel
theorem dX5_gainCountOf_59 : decode cX5_gainCountOf 59 = .ok (.goto 4, 3) := by decide +kernel
theorem dX5_gainCountOf_62 : decode cX5_gainCountOf 62 = .ok (.iconst 0, 1) := by decide +kernel
theorem dX5_gainCountOf_63 : decode cX5_gainCountOf 63 = .ok (.iadd, 1) := by decide +kernel
theorem dX5_gainCountOf_64 : decode cX5_gainCountOf 64 = .ok (.istore_n 3, 1) := by decide +kernel
theorem dX5_gainCountOf_65 : decode cX5_gainCountOf 65 = .ok (.iinc 4 1, 3) := by decide +kernel
theorem dX5_gainCountOf_68 : decode cX5_gainCountOf 68 = .ok (.goto (-38), 3) := by decide +kernel
theorem dX5_gainCountOf_71 : decode cX5_gainCountOf 71 = .ok (.iload_n 3, 1) := by decide +kernel
theorem dX5_gainCountOf_72 : decode cX5_gainCountOf 72 = .ok (.ireturn, 1) := by decide +kernel
theorem dX5_nextGain_0 : decode cX5_nextGain 0 = .ok (.iload_n 1, 1) := by decide +kernel
theorem dX5_nextGain_1 : decode cX5_nextGain 1 = .ok (.invokestatic 135, 3) := by decide +kernel
theorem dX5_nextGain_4 : decode cX5_nextGain 4 = .ok (.ifCond .ne 5, 3) := by decide +kernel
theorem dX5_nextGain_7 : decode cX5_nextGain 7 = .ok (.iconst (-1), 1) := by decide +kernel
theorem dX5_nextGain_8 : decode cX5_nextGain 8 = .ok (.ireturn, 1) := by decide +kernel
theorem dX5_nextGain_9 : decode cX5_nextGain 9 = .ok (.iload_n 1, 1) := by decide +kernel
theorem dX5_nextGain_10 : decode cX5_nextGain 10 = .ok (.istore_n 2, 1) := by decide +kernel
theorem dX5_nextGain_11 : decode cX5_nextGain 11 = .ok (.iload_n 2, 1) := by decide +kernel
theorem dX5_nextGain_12 : decode cX5_nextGain 12 = .ok (.sipush 1024, 3) := by decide +kernel
theorem dX5_nextGain_15 : decode cX5_nextGain 15 = .ok (.if_icmp .ge 17, 3) := by decide +kernel
theorem dX5_nextGain_18 : decode cX5_nextGain 18 = .ok (.aload_n 0, 1) := by decide +kernel
theorem dX5_nextGain_19 : decode cX5_nextGain 19 = .ok (.iload_n 2, 1) := by decide +kernel
theorem dX5_nextGain_20 : decode cX5_nextGain 20 = .ok (.invokevirtual 141, 3) := by decide +kernel
theorem dX5_nextGain_23 : decode cX5_nextGain 23 = .ok (.ifCond .ne 9, 3) := by decide +kernel
theorem dX5_nextGain_26 : decode cX5_nextGain 26 = .ok (.iinc 2 1, 3) := by decide +kernel
theorem dX5_nextGain_29 : decode cX5_nextGain 29 = .ok (.goto (-18), 3) := by decide +kernel
theorem dX5_nextGain_32 : decode cX5_nextGain 32 = .ok (.iload_n 2, 1) := by decide +kernel
theorem dX5_nextGain_33 : decode cX5_nextGain 33 = .ok (.sipush 1024, 3) := by decide +kernel
theorem dX5_nextGain_36 : decode cX5_nextGain 36 = .ok (.if_icmp .ge 7, 3) := by decide +kernel
theorem dX5_nextGain_39 : decode cX5_nextGain 39 = .ok (.iload_n 2, 1) := by decide +kernel
theorem dX5_nextGain_40 : decode cX5_nextGain 40 = .ok (.goto 5, 3) := by decide +kernel
theorem dX5_nextGain_43 : decode cX5_nextGain 43 = .ok (.bipush (-4), 2) := by decide +kernel
theorem dX5_nextGain_45 : decode cX5_nextGain 45 = .ok (.ireturn, 1) := by decide +kernel
theorem dX5_nextLoss_0 : decode cX5_nextLoss 0 = .ok (.iload_n 1, 1) := by decide +kernel
theorem dX5_nextLoss_1 : decode cX5_nextLoss 1 = .ok (.invokestatic 135, 3) := by decide +kernel
theorem dX5_nextLoss_4 : decode cX5_nextLoss 4 = .ok (.ifCond .ne 5, 3) := by decide +kernel
theorem dX5_nextLoss_7 : decode cX5_nextLoss 7 = .ok (.iconst (-1), 1) := by decide +kernel
theorem dX5_nextLoss_8 : decode cX5_nextLoss 8 = .ok (.ireturn, 1) := by decide +kernel
theorem dX5_nextLoss_9 : decode cX5_nextLoss 9 = .ok (.iload_n 1, 1) := by decide +kernel
theorem dX5_nextLoss_10 : decode cX5_nextLoss 10 = .ok (.istore_n 2, 1) := by decide +kernel
theorem dX5_nextLoss_11 : decode cX5_nextLoss 11 = .ok (.iload_n 2, 1) := by decide +kernel
theorem dX5_nextLoss_12 : decode cX5_nextLoss 12 = .ok (.sipush 1024, 3) := by decide +kernel
theorem dX5_nextLoss_15 : decode cX5_nextLoss 15 = .ok (.if_icmp .ge 17, 3) := by decide +kernel
theorem dX5_nextLoss_18 : decode cX5_nextLoss 18 = .ok (.aload_n 0, 1) := by decide +kernel
theorem dX5_nextLoss_19 : decode cX5_nextLoss 19 = .ok (.iload_n 2, 1) := by decide +kernel
theorem dX5_nextLoss_20 : decode cX5_nextLoss 20 = .ok (.invokevirtual 144, 3) := by decide +kernel
theorem dX5_nextLoss_23 : decode cX5_nextLoss 23 = .ok (.ifCond .ne 9, 3) := by decide +kernel
theorem dX5_nextLoss_26 : decode cX5_nextLoss 26 = .ok (.iinc 2 1, 3) := by decide +kernel
theorem dX5_nextLoss_29 : decode cX5_nextLoss 29 = .ok (.goto (-18), 3) := by decide +kernel
theorem dX5_nextLoss_32 : decode cX5_nextLoss 32 = .ok (.iload_n 2, 1) := by decide +kernel
theorem dX5_nextLoss_33 : decode cX5_nextLoss 33 = .ok (.sipush 1024, 3) := by decide +kernel
theorem dX5_nextLoss_36 : decode cX5_nextLoss 36 = .ok (.if_icmp .ge 7, 3) := by decide +kernel
theorem dX5_nextLoss_39 : decode cX5_nextLoss 39 = .ok (.iload_n 2, 1) := by decide +kernel
theorem dX5_nextLoss_40 : decode cX5_nextLoss 40 = .ok (.goto 5, 3) := by decide +kernel
theorem dX5_nextLoss_43 : decode cX5_nextLoss 43 = .ok (.bipush (-4), 2) := by decide +kernel
theorem dX5_nextLoss_45 : decode cX5_nextLoss 45 = .ok (.ireturn, 1) := by decide +kernel
theorem dX5_transitionCount_0 : decode cX5_transitionCount 0 = .ok (.iload_n 1, 1) := by decide +kernel
theorem dX5_transitionCount_1 : decode cX5_transitionCount 1 = .ok (.iconst 0, 1) := by decide +kernel
theorem dX5_transitionCount_2 : decode cX5_transitionCount 2 = .ok (.iconst 3, 1) := by decide +kernel
theorem dX5_transitionCount_3 : decode cX5_transitionCount 3 = .ok (.invokestatic 41, 3) := by decide +kernel
theorem dX5_transitionCount_6 : decode cX5_transitionCount 6 = .ok (.ifCond .eq 12, 3) := by decide +kernel
theorem dX5_transitionCount_9 : decode cX5_transitionCount 9 = .ok (.iload_n 2, 1) := by decide +kernel
theorem dX5_transitionCount_10 : decode cX5_transitionCount 10 = .ok (.iconst 0, 1) := by decide +kernel
theorem dX5_transitionCount_11 : decode cX5_transitionCount 11 = .ok (.iconst 3, 1) := by decide +kernel
theorem dX5_transitionCount_12 : decode cX5_transitionCount 12 = .ok (.invokestatic 41, 3) := by decide +kernel
theorem dX5_transitionCount_15 : decode cX5_transitionCount 15 = .ok (.ifCond .ne 5, 3) := by decide +kernel
theorem dX5_transitionCount_18 : decode cX5_transitionCount 18 = .ok (.iconst (-1), 1) := by decide +kernel
theorem dX5_transitionCount_19 : decode cX5_transitionCount 19 = .ok (.ireturn, 1) := by decide +kernel
theorem dX5_transitionCount_20 : decode cX5_transitionCount 20 = .ok (.iconst 0, 1) := by decide +kernel
theorem dX5_transitionCount_21 : decode cX5_transitionCount 21 = .ok (.istore_n 3, 1) := by decide +kernel
theorem dX5_transitionCount_22 : decode cX5_transitionCount 22 = .ok (.iconst 0, 1) := by decide +kernel
theorem dX5_transitionCount_23 : decode cX5_transitionCount 23 = .ok (.istore 4, 2) := by decide +kernel
theorem dX5_transitionCount_25 : decode cX5_transitionCount 25 = .ok (.iload 4, 2) := by decide +kernel
theorem dX5_transitionCount_27 : decode cX5_transitionCount 27 = .ok (.sipush 1024, 3) := by decide +kernel
theorem dX5_transitionCount_30 : decode cX5_transitionCount 30 = .ok (.if_icmp .ge 39, 3) := by decide +kernel
theorem dX5_transitionCount_33 : decode cX5_transitionCount 33 = .ok (.iload_n 3, 1) := by decide +kernel
theorem dX5_transitionCount_34 : decode cX5_transitionCount 34 = .ok (.aload_n 0, 1) := by decide +kernel
theorem dX5_transitionCount_35 : decode cX5_transitionCount 35 = .ok (.iconst 0, 1) := by decide +kernel
theorem dX5_transitionCount_36 : decode cX5_transitionCount 36 = .ok (.iload 4, 2) := by decide +kernel
theorem dX5_transitionCount_38 : decode cX5_transitionCount 38 = .ok (.invokevirtual 138, 3) := by decide +kernel
theorem dX5_transitionCount_41 : decode cX5_transitionCount 41 = .ok (.iload_n 1, 1) := by decide +kernel
theorem dX5_transitionCount_42 : decode cX5_transitionCount 42 = .ok (.if_icmp .ne 18, 3) := by decide +kernel
theorem dX5_transitionCount_45 : decode cX5_transitionCount 45 = .ok (.aload_n 0, 1) := by decide +kernel
theorem dX5_transitionCount_46 : decode cX5_transitionCount 46 = .ok (.iconst 1, 1) := by decide +kernel
theorem dX5_transitionCount_47 : decode cX5_transitionCount 47 = .ok (.iload 4, 2) := by decide +kernel
theorem dX5_transitionCount_49 : decode cX5_transitionCount 49 = .ok (.invokevirtual 138, 3) := by decide +kernel
theorem dX5_transitionCount_52 : decode cX5_transitionCount 52 = .ok (.iload_n 2, 1) := by decide +kernel
theorem dX5_transitionCount_53 : decode cX5_transitionCount 53 = .ok (.if_icmp .ne 7, 3) := by decide +kernel
theorem dX5_transitionCount_56 : decode cX5_transitionCount 56 = .ok (.iconst 1, 1) := by decide +kernel
theorem dX5_transitionCount_57 : decode cX5_transitionCount 57 = .ok (.goto 4, 3) := by decide +kernel
theorem dX5_transitionCount_60 : decode cX5_transitionCount 60 = .ok (.iconst 0, 1) := by decide +kernel
theorem dX5_transitionCount_61 : decode cX5_transitionCount 61 = .ok (.iadd, 1) := by decide +kernel
theorem dX5_transitionCount_62 : decode cX5_transitionCount 62 = .ok (.istore_n 3, 1) := by decide +kernel
theorem dX5_transitionCount_63 : decode cX5_transitionCount 63 = .ok (.iinc 4 1, 3) := by decide +kernel
theorem dX5_transitionCount_66 : decode cX5_transitionCount 66 = .ok (.goto (-41), 3) := by decide +kernel
theorem dX5_transitionCount_69 : decode cX5_transitionCount 69 = .ok (.iload_n 3, 1) := by decide +kernel
theorem dX5_transitionCount_70 : decode cX5_transitionCount 70 = .ok (.ireturn, 1) := by decide +kernel
theorem dX5_grantedShareBits_0 : decode cX5_grantedShareBits 0 = .ok (.iload_n 1, 1) := by decide +kernel
theorem dX5_grantedShareBits_1 : decode cX5_grantedShareBits 1 = .ok (.invokestatic 101, 3) := by decide +kernel
theorem dX5_grantedShareBits_4 : decode cX5_grantedShareBits 4 = .ok (.ifCond .ne 5, 3) := by decide +kernel
theorem dX5_grantedShareBits_7 : decode cX5_grantedShareBits 7 = .ok (.iconst (-1), 1) := by decide +kernel
theorem dX5_grantedShareBits_8 : decode cX5_grantedShareBits 8 = .ok (.ireturn, 1) := by decide +kernel
theorem dX5_grantedShareBits_9 : decode cX5_grantedShareBits 9 = .ok (.aload_n 0, 1) := by decide +kernel
theorem dX5_grantedShareBits_10 : decode cX5_grantedShareBits 10 = .ok (.iload_n 1, 1) := by decide +kernel
theorem dX5_grantedShareBits_11 : decode cX5_grantedShareBits 11 = .ok (.iconst 0, 1) := by decide +kernel
theorem dX5_grantedShareBits_12 : decode cX5_grantedShareBits 12 = .ok (.invokevirtual 147, 3) := by decide +kernel
theorem dX5_grantedShareBits_15 : decode cX5_grantedShareBits 15 = .ok (.istore_n 2, 1) := by decide +kernel
theorem dX5_grantedShareBits_16 : decode cX5_grantedShareBits 16 = .ok (.iload_n 2, 1) := by decide +kernel
theorem dX5_grantedShareBits_17 : decode cX5_grantedShareBits 17 = .ok (.ifCond .ne 5, 3) := by decide +kernel
theorem dX5_grantedShareBits_20 : decode cX5_grantedShareBits 20 = .ok (.iconst 0, 1) := by decide +kernel
theorem dX5_grantedShareBits_21 : decode cX5_grantedShareBits 21 = .ok (.ireturn, 1) := by decide +kernel
theorem dX5_grantedShareBits_22 : decode cX5_grantedShareBits 22 = .ok (.iconst 0, 1) := by decide +kernel
theorem dX5_grantedShareBits_23 : decode cX5_grantedShareBits 23 = .ok (.istore_n 3, 1) := by decide +kernel
theorem dX5_grantedShareBits_24 : decode cX5_grantedShareBits 24 = .ok (.iload_n 2, 1) := by decide +kernel
theorem dX5_grantedShareBits_25 : decode cX5_grantedShareBits 25 = .ok (.iload_n 3, 1) := by decide +kernel
theorem dX5_grantedShareBits_26 : decode cX5_grantedShareBits 26 = .ok (.ishr, 1) := by decide +kernel
theorem dX5_grantedShareBits_27 : decode cX5_grantedShareBits 27 = .ok (.iconst 1, 1) := by decide +kernel
theorem dX5_grantedShareBits_28 : decode cX5_grantedShareBits 28 = .ok (.if_icmp .le 9, 3) := by decide +kernel
theorem dX5_grantedShareBits_31 : decode cX5_grantedShareBits 31 = .ok (.iinc 3 1, 3) := by decide +kernel
theorem dX5_grantedShareBits_34 : decode cX5_grantedShareBits 34 = .ok (.goto (-10), 3) := by decide +kernel
theorem dX5_grantedShareBits_37 : decode cX5_grantedShareBits 37 = .ok (.bipush 127, 2) := by decide +kernel
theorem dX5_grantedShareBits_39 : decode cX5_grantedShareBits 39 = .ok (.iload_n 3, 1) := by decide +kernel
theorem dX5_grantedShareBits_40 : decode cX5_grantedShareBits 40 = .ok (.iadd, 1) := by decide +kernel
theorem dX5_grantedShareBits_41 : decode cX5_grantedShareBits 41 = .ok (.bipush 10, 2) := by decide +kernel
theorem dX5_grantedShareBits_43 : decode cX5_grantedShareBits 43 = .ok (.isub, 1) := by decide +kernel
theorem dX5_grantedShareBits_44 : decode cX5_grantedShareBits 44 = .ok (.bipush 23, 2) := by decide +kernel
theorem dX5_grantedShareBits_46 : decode cX5_grantedShareBits 46 = .ok (.ishl, 1) := by decide +kernel
theorem dX5_grantedShareBits_47 : decode cX5_grantedShareBits 47 = .ok (.iload_n 2, 1) := by decide +kernel
theorem dX5_grantedShareBits_48 : decode cX5_grantedShareBits 48 = .ok (.iconst 1, 1) := by decide +kernel
theorem dX5_grantedShareBits_49 : decode cX5_grantedShareBits 49 = .ok (.iload_n 3, 1) := by decide +kernel
theorem dX5_grantedShareBits_50 : decode cX5_grantedShareBits 50 = .ok (.ishl, 1) := by decide +kernel
theorem dX5_grantedShareBits_51 : decode cX5_grantedShareBits 51 = .ok (.ixor, 1) := by decide +kernel
theorem dX5_grantedShareBits_52 : decode cX5_grantedShareBits 52 = .ok (.bipush 23, 2) := by decide +kernel
theorem dX5_grantedShareBits_54 : decode cX5_grantedShareBits 54 = .ok (.iload_n 3, 1) := by decide +kernel
theorem dX5_grantedShareBits_55 : decode cX5_grantedShareBits 55 = .ok (.isub, 1) := by decide +kernel
theorem dX5_grantedShareBits_56 : decode cX5_grantedShareBits 56 = .ok (.ishl, 1) := by decide +kernel
theorem dX5_grantedShareBits_57 : decode cX5_grantedShareBits 57 = .ok (.ior, 1) := by decide +kernel
theorem dX5_grantedShareBits_58 : decode cX5_grantedShareBits 58 = .ok (.ireturn, 1) := by decide +kernel
theorem dX5_looks_0 : decode cX5_looks 0 = .ok (.iconst 0, 1) := by decide +kernel
theorem dX5_looks_1 : decode cX5_looks 1 = .ok (.istore_n 2, 1) := by decide +kernel
theorem dX5_looks_2 : decode cX5_looks 2 = .ok (.iload_n 2, 1) := by decide +kernel
theorem dX5_looks_3 : decode cX5_looks 3 = .ok (.sipush 1024, 3) := by decide +kernel
theorem dX5_looks_6 : decode cX5_looks 6 = .ok (.if_icmp .ge 21, 3) := by decide +kernel
theorem dX5_looks_9 : decode cX5_looks 9 = .ok (.aload_n 0, 1) := by decide +kernel
theorem dX5_looks_10 : decode cX5_looks 10 = .ok (.getfield 22, 3) := by decide +kernel
theorem dX5_looks_13 : decode cX5_looks 13 = .ok (.iload_n 2, 1) := by decide +kernel
theorem dX5_looks_14 : decode cX5_looks 14 = .ok (.aload_n 0, 1) := by decide +kernel
theorem dX5_looks_15 : decode cX5_looks 15 = .ok (.iload_n 1, 1) := by decide +kernel
theorem dX5_looks_16 : decode cX5_looks 16 = .ok (.iload_n 2, 1) := by decide +kernel
theorem dX5_looks_17 : decode cX5_looks 17 = .ok (.invokevirtual 125, 3) := by decide +kernel
theorem dX5_looks_20 : decode cX5_looks 20 = .ok (.iastore, 1) := by decide +kernel
theorem dX5_looks_21 : decode cX5_looks 21 = .ok (.iinc 2 1, 3) := by decide +kernel
theorem dX5_looks_24 : decode cX5_looks 24 = .ok (.goto (-22), 3) := by decide +kernel
theorem dX5_looks_27 : decode cX5_looks 27 = .ok (.return_, 1) := by decide +kernel
theorem dX5_shows_0 : decode cX5_shows 0 = .ok (.aload_n 0, 1) := by decide +kernel
theorem dX5_shows_1 : decode cX5_shows 1 = .ok (.iload_n 1, 1) := by decide +kernel
theorem dX5_shows_2 : decode cX5_shows 2 = .ok (.invokevirtual 128, 3) := by decide +kernel
theorem dX5_shows_5 : decode cX5_shows 5 = .ok (.istore 4, 2) := by decide +kernel
theorem dX5_shows_7 : decode cX5_shows 7 = .ok (.aload_n 0, 1) := by decide +kernel
theorem dX5_shows_8 : decode cX5_shows 8 = .ok (.getfield 13, 3) := by decide +kernel
theorem dX5_shows_11 : decode cX5_shows 11 = .ok (.bipush 42, 2) := by decide +kernel
theorem dX5_shows_13 : decode cX5_shows 13 = .ok (.iload_n 1, 1) := by decide +kernel
theorem dX5_shows_14 : decode cX5_shows 14 = .ok (.imul, 1) := by decide +kernel
theorem dX5_shows_15 : decode cX5_shows 15 = .ok (.iconst 1, 1) := by decide +kernel
theorem dX5_shows_16 : decode cX5_shows 16 = .ok (.iadd, 1) := by decide +kernel
theorem dX5_shows_17 : decode cX5_shows 17 = .ok (.iaload, 1) := by decide +kernel
theorem dX5_shows_18 : decode cX5_shows 18 = .ok (.istore 5, 2) := by decide +kernel
theorem dX5_shows_20 : decode cX5_shows 20 = .ok (.iconst 0, 1) := by decide +kernel
theorem dX5_shows_21 : decode cX5_shows 21 = .ok (.istore 6, 2) := by decide +kernel
theorem dX5_shows_23 : decode cX5_shows 23 = .ok (.iload 6, 2) := by decide +kernel
theorem dX5_shows_25 : decode cX5_shows 25 = .ok (.sipush 1024, 3) := by decide +kernel
theorem dX5_shows_28 : decode cX5_shows 28 = .ok (.if_icmp .ge 59, 3) := by decide +kernel
theorem dX5_shows_31 : decode cX5_shows 31 = .ok (.aload_n 0, 1) := by decide +kernel
theorem dX5_shows_32 : decode cX5_shows 32 = .ok (.getfield 22, 3) := by decide +kernel
theorem dX5_shows_35 : decode cX5_shows 35 = .ok (.iload 6, 2) := by decide +kernel
theorem dX5_shows_37 : decode cX5_shows 37 = .ok (.iaload, 1) := by decide +kernel
theorem dX5_shows_38 : decode cX5_shows 38 = .ok (.iload_n 2, 1) := by decide +kernel
theorem dX5_shows_39 : decode cX5_shows 39 = .ok (.iand, 1) := by decide +kernel
theorem dX5_shows_40 : decode cX5_shows 40 = .ok (.istore 7, 2) := by decide +kernel
theorem dX5_shows_42 : decode cX5_shows 42 = .ok (.iload 7, 2) := by decide +kernel
theorem dX5_shows_44 : decode cX5_shows 44 = .ok (.iload_n 3, 1) := by decide +kernel
theorem dX5_shows_45 : decode cX5_shows 45 = .ok (.invokestatic 67, 3) := by decide +kernel
theorem dX5_shows_48 : decode cX5_shows 48 = .ok (.ifCond .eq 33, 3) := by decide +kernel
theorem dX5_shows_51 : decode cX5_shows 51 = .ok (.iload 5, 2) := by decide +kernel
theorem dX5_shows_53 : decode cX5_shows 53 = .ok (.iload 7, 2) := by decide +kernel
theorem dX5_shows_55 : decode cX5_shows 55 = .ok (.iload 4, 2) := by decide +kernel
theorem dX5_shows_57 : decode cX5_shows 57 = .ok (.invokestatic 131, 3) := by decide +kernel
theorem dX5_shows_60 : decode cX5_shows 60 = .ok (.iload 5, 2) := by decide +kernel
theorem dX5_shows_62 : decode cX5_shows 62 = .ok (.iload 7, 2) := by decide +kernel
theorem dX5_shows_64 : decode cX5_shows 64 = .ok (.iconst 1, 1) := by decide +kernel
theorem dX5_shows_65 : decode cX5_shows 65 = .ok (.iload_n 3, 1) := by decide +kernel
theorem dX5_shows_66 : decode cX5_shows 66 = .ok (.ishl, 1) := by decide +kernel
theorem dX5_shows_67 : decode cX5_shows 67 = .ok (.iconst (-1), 1) := by decide +kernel
theorem dX5_shows_68 : decode cX5_shows 68 = .ok (.ixor, 1) := by decide +kernel
theorem dX5_shows_69 : decode cX5_shows 69 = .ok (.iand, 1) := by decide +kernel
theorem dX5_shows_70 : decode cX5_shows 70 = .ok (.iload 4, 2) := by decide +kernel
theorem dX5_shows_72 : decode cX5_shows 72 = .ok (.invokestatic 131, 3) := by decide +kernel
theorem dX5_shows_75 : decode cX5_shows 75 = .ok (.if_icmp .eq 6, 3) := by decide +kernel
theorem dX5_shows_78 : decode cX5_shows 78 = .ok (.iload 6, 2) := by decide +kernel
theorem dX5_shows_80 : decode cX5_shows 80 = .ok (.ireturn, 1) := by decide +kernel
theorem dX5_shows_81 : decode cX5_shows 81 = .ok (.iinc 6 1, 3) := by decide +kernel
theorem dX5_shows_84 : decode cX5_shows 84 = .ok (.goto (-61), 3) := by decide +kernel
theorem dX5_shows_87 : decode cX5_shows 87 = .ok (.bipush (-4), 2) := by decide +kernel
theorem dX5_shows_89 : decode cX5_shows 89 = .ok (.ireturn, 1) := by decide +kernel
theorem dX5_witness_0 : decode cX5_witness 0 = .ok (.aload_n 0, 1) := by decide +kernel
theorem dX5_witness_1 : decode cX5_witness 1 = .ok (.iload_n 1, 1) := by decide +kernel
theorem dX5_witness_2 : decode cX5_witness 2 = .ok (.iload_n 2, 1) := by decide +kernel
theorem dX5_witness_3 : decode cX5_witness 3 = .ok (.invokevirtual 111, 3) := by decide +kernel
theorem dX5_witness_6 : decode cX5_witness 6 = .ok (.ifCond .ne 5, 3) := by decide +kernel
theorem dX5_witness_9 : decode cX5_witness 9 = .ok (.iconst (-1), 1) := by decide +kernel
theorem dX5_witness_10 : decode cX5_witness 10 = .ok (.ireturn, 1) := by decide +kernel
theorem dX5_witness_11 : decode cX5_witness 11 = .ok (.aload_n 0, 1) := by decide +kernel
theorem dX5_witness_12 : decode cX5_witness 12 = .ok (.iload_n 1, 1) := by decide +kernel
theorem dX5_witness_13 : decode cX5_witness 13 = .ok (.invokevirtual 150, 3) := by decide +kernel
theorem dX5_witness_16 : decode cX5_witness 16 = .ok (.aload_n 0, 1) := by decide +kernel
theorem dX5_witness_17 : decode cX5_witness 17 = .ok (.iload_n 1, 1) := by decide +kernel
theorem dX5_witness_18 : decode cX5_witness 18 = .ok (.sipush 255, 3) := by decide +kernel
theorem dX5_witness_21 : decode cX5_witness 21 = .ok (.iload_n 2, 1) := by decide +kernel
theorem dX5_witness_22 : decode cX5_witness 22 = .ok (.invokevirtual 154, 3) := by decide +kernel
theorem dX5_witness_25 : decode cX5_witness 25 = .ok (.ireturn, 1) := by decide +kernel
theorem dX5_isRedundant_0 : decode cX5_isRedundant 0 = .ok (.aload_n 0, 1) := by decide +kernel
theorem dX5_isRedundant_1 : decode cX5_isRedundant 1 = .ok (.iload_n 1, 1) := by decide +kernel
theorem dX5_isRedundant_2 : decode cX5_isRedundant 2 = .ok (.iload_n 2, 1) := by decide +kernel
theorem dX5_isRedundant_3 : decode cX5_isRedundant 3 = .ok (.invokevirtual 157, 3) := by decide +kernel
theorem dX5_isRedundant_6 : decode cX5_isRedundant 6 = .ok (.istore_n 3, 1) := by decide +kernel
theorem dX5_isRedundant_7 : decode cX5_isRedundant 7 = .ok (.iload_n 3, 1) := by decide +kernel
theorem dX5_isRedundant_8 : decode cX5_isRedundant 8 = .ok (.iconst (-1), 1) := by decide +kernel
theorem dX5_isRedundant_9 : decode cX5_isRedundant 9 = .ok (.if_icmp .ne 7, 3) := by decide +kernel
theorem dX5_isRedundant_12 : decode cX5_isRedundant 12 = .ok (.iload_n 3, 1) := by decide +kernel
theorem dX5_isRedundant_13 : decode cX5_isRedundant 13 = .ok (.goto 14, 3) := by decide +kernel
theorem dX5_isRedundant_16 : decode cX5_isRedundant 16 = .ok (.iload_n 3, 1) := by decide +kernel
theorem dX5_isRedundant_17 : decode cX5_isRedundant 17 = .ok (.bipush (-4), 2) := by decide +kernel
theorem dX5_isRedundant_19 : decode cX5_isRedundant 19 = .ok (.if_icmp .ne 7, 3) := by decide +kernel
theorem dX5_isRedundant_22 : decode cX5_isRedundant 22 = .ok (.iconst 1, 1) := by decide +kernel
theorem dX5_isRedundant_23 : decode cX5_isRedundant 23 = .ok (.goto 4, 3) := by decide +kernel
theorem dX5_isRedundant_26 : decode cX5_isRedundant 26 = .ok (.iconst 0, 1) := by decide +kernel
theorem dX5_isRedundant_27 : decode cX5_isRedundant 27 = .ok (.ireturn, 1) := by decide +kernel
theorem dX5_irredundantCore_0 : decode cX5_irredundantCore 0 = .ok (.iload_n 1, 1) := by decide +kernel
theorem dX5_irredundantCore_1 : decode cX5_irredundantCore 1 = .ok (.invokestatic 101, 3) := by decide +kernel
theorem dX5_irredundantCore_4 : decode cX5_irredundantCore 4 = .ok (.ifCond .ne 5, 3) := by decide +kernel
theorem dX5_irredundantCore_7 : decode cX5_irredundantCore 7 = .ok (.iconst (-1), 1) := by decide +kernel
theorem dX5_irredundantCore_8 : decode cX5_irredundantCore 8 = .ok (.ireturn, 1) := by decide +kernel
theorem dX5_irredundantCore_9 : decode cX5_irredundantCore 9 = .ok (.aload_n 0, 1) := by decide +kernel
theorem dX5_irredundantCore_10 : decode cX5_irredundantCore 10 = .ok (.iload_n 1, 1) := by decide +kernel
theorem dX5_irredundantCore_11 : decode cX5_irredundantCore 11 = .ok (.invokevirtual 150, 3) := by decide +kernel
theorem dX5_irredundantCore_14 : decode cX5_irredundantCore 14 = .ok (.iconst 1, 1) := by decide +kernel
theorem dX5_irredundantCore_15 : decode cX5_irredundantCore 15 = .ok (.aload_n 0, 1) := by decide +kernel
theorem dX5_irredundantCore_16 : decode cX5_irredundantCore 16 = .ok (.getfield 13, 3) := by decide +kernel
theorem dX5_irredundantCore_19 : decode cX5_irredundantCore 19 = .ok (.bipush 42, 2) := by decide +kernel
theorem dX5_irredundantCore_21 : decode cX5_irredundantCore 21 = .ok (.iload_n 1, 1) := by decide +kernel
theorem dX5_irredundantCore_22 : decode cX5_irredundantCore 22 = .ok (.imul, 1) := by decide +kernel
theorem dX5_irredundantCore_23 : decode cX5_irredundantCore 23 = .ok (.iaload, 1) := by decide +kernel
theorem dX5_irredundantCore_24 : decode cX5_irredundantCore 24 = .ok (.ishl, 1) := by decide +kernel
theorem dX5_irredundantCore_25 : decode cX5_irredundantCore 25 = .ok (.iconst 1, 1) := by decide +kernel
theorem dX5_irredundantCore_26 : decode cX5_irredundantCore 26 = .ok (.isub, 1) := by decide +kernel
theorem dX5_irredundantCore_27 : decode cX5_irredundantCore 27 = .ok (.istore_n 2, 1) := by decide +kernel
theorem dX5_irredundantCore_28 : decode cX5_irredundantCore 28 = .ok (.iconst 0, 1) := by decide +kernel
theorem dX5_irredundantCore_29 : decode cX5_irredundantCore 29 = .ok (.istore_n 3, 1) := by decide +kernel
theorem dX5_irredundantCore_30 : decode cX5_irredundantCore 30 = .ok (.iload_n 3, 1) := by decide +kernel
theorem dX5_irredundantCore_31 : decode cX5_irredundantCore 31 = .ok (.aload_n 0, 1) := by decide +kernel
theorem dX5_irredundantCore_32 : decode cX5_irredundantCore 32 = .ok (.getfield 13, 3) := by decide +kernel
theorem dX5_irredundantCore_35 : decode cX5_irredundantCore 35 = .ok (.bipush 42, 2) := by decide +kernel
theorem dX5_irredundantCore_37 : decode cX5_irredundantCore 37 = .ok (.iload_n 1, 1) := by decide +kernel
theorem dX5_irredundantCore_38 : decode cX5_irredundantCore 38 = .ok (.imul, 1) := by decide +kernel
theorem dX5_irredundantCore_39 : decode cX5_irredundantCore 39 = .ok (.iaload, 1) := by decide +kernel
theorem dX5_irredundantCore_40 : decode cX5_irredundantCore 40 = .ok (.if_icmp .ge 42, 3) := by decide +kernel
theorem dX5_irredundantCore_43 : decode cX5_irredundantCore 43 = .ok (.iload_n 2, 1) := by decide +kernel
theorem dX5_irredundantCore_44 : decode cX5_irredundantCore 44 = .ok (.iload_n 3, 1) := by decide +kernel
theorem dX5_irredundantCore_45 : decode cX5_irredundantCore 45 = .ok (.invokestatic 67, 3) := by decide +kernel
theorem dX5_irredundantCore_48 : decode cX5_irredundantCore 48 = .ok (.ifCond .eq 28, 3) := by decide +kernel
theorem dX5_irredundantCore_51 : decode cX5_irredundantCore 51 = .ok (.aload_n 0, 1) := by decide +kernel
theorem dX5_irredundantCore_52 : decode cX5_irredundantCore 52 = .ok (.iload_n 1, 1) := by decide +kernel
theorem dX5_irredundantCore_53 : decode cX5_irredundantCore 53 = .ok (.iload_n 2, 1) := by decide +kernel
theorem dX5_irredundantCore_54 : decode cX5_irredundantCore 54 = .ok (.iload_n 3, 1) := by decide +kernel
theorem dX5_irredundantCore_55 : decode cX5_irredundantCore 55 = .ok (.invokevirtual 154, 3) := by decide +kernel
theorem dX5_irredundantCore_58 : decode cX5_irredundantCore 58 = .ok (.bipush (-4), 2) := by decide +kernel
theorem dX5_irredundantCore_60 : decode cX5_irredundantCore 60 = .ok (.if_icmp .ne 16, 3) := by decide +kernel
theorem dX5_irredundantCore_63 : decode cX5_irredundantCore 63 = .ok (.iload_n 2, 1) := by decide +kernel
theorem dX5_irredundantCore_64 : decode cX5_irredundantCore 64 = .ok (.iconst 1, 1) := by decide +kernel
theorem dX5_irredundantCore_65 : decode cX5_irredundantCore 65 = .ok (.iload_n 3, 1) := by decide +kernel
theorem dX5_irredundantCore_66 : decode cX5_irredundantCore 66 = .ok (.ishl, 1) := by decide +kernel
theorem dX5_irredundantCore_67 : decode cX5_irredundantCore 67 = .ok (.iconst (-1), 1) := by decide +kernel
theorem dX5_irredundantCore_68 : decode cX5_irredundantCore 68 = .ok (.ixor, 1) := by decide +kernel
theorem dX5_irredundantCore_69 : decode cX5_irredundantCore 69 = .ok (.iand, 1) := by decide +kernel
theorem dX5_irredundantCore_70 : decode cX5_irredundantCore 70 = .ok (.istore_n 2, 1) := by decide +kernel
theorem dX5_irredundantCore_71 : decode cX5_irredundantCore 71 = .ok (.iconst 0, 1) := by decide +kernel
theorem dX5_irredundantCore_72 : decode cX5_irredundantCore 72 = .ok (.istore_n 3, 1) := by decide +kernel
theorem dX5_irredundantCore_73 : decode cX5_irredundantCore 73 = .ok (.goto (-43), 3) := by decide +kernel
theorem dX5_irredundantCore_76 : decode cX5_irredundantCore 76 = .ok (.iinc 3 1, 3) := by decide +kernel
theorem dX5_irredundantCore_79 : decode cX5_irredundantCore 79 = .ok (.goto (-49), 3) := by decide +kernel
theorem dX5_irredundantCore_82 : decode cX5_irredundantCore 82 = .ok (.iload_n 2, 1) := by decide +kernel
theorem dX5_irredundantCore_83 : decode cX5_irredundantCore 83 = .ok (.ireturn, 1) := by decide +kernel
theorem dX5_isWithoutGain_0 : decode cX5_isWithoutGain 0 = .ok (.aload_n 0, 1) := by decide +kernel
theorem dX5_isWithoutGain_1 : decode cX5_isWithoutGain 1 = .ok (.iconst 1, 1) := by decide +kernel
theorem dX5_isWithoutGain_2 : decode cX5_isWithoutGain 2 = .ok (.invokevirtual 128, 3) := by decide +kernel
theorem dX5_isWithoutGain_5 : decode cX5_isWithoutGain 5 = .ok (.istore_n 2, 1) := by decide +kernel
theorem dX5_isWithoutGain_6 : decode cX5_isWithoutGain 6 = .ok (.aload_n 0, 1) := by decide +kernel
theorem dX5_isWithoutGain_7 : decode cX5_isWithoutGain 7 = .ok (.getfield 13, 3) := by decide +kernel
theorem dX5_isWithoutGain_10 : decode cX5_isWithoutGain 10 = .ok (.bipush 43, 2) := by decide +kernel
theorem dX5_isWithoutGain_12 : decode cX5_isWithoutGain 12 = .ok (.iaload, 1) := by decide +kernel
theorem dX5_isWithoutGain_13 : decode cX5_isWithoutGain 13 = .ok (.istore_n 3, 1) := by decide +kernel
theorem dX5_isWithoutGain_14 : decode cX5_isWithoutGain 14 = .ok (.iconst 0, 1) := by decide +kernel
theorem dX5_isWithoutGain_15 : decode cX5_isWithoutGain 15 = .ok (.istore 4, 2) := by decide +kernel
theorem dX5_isWithoutGain_17 : decode cX5_isWithoutGain 17 = .ok (.iload 4, 2) := by decide +kernel
theorem dX5_isWithoutGain_19 : decode cX5_isWithoutGain 19 = .ok (.sipush 1024, 3) := by decide +kernel
theorem dX5_isWithoutGain_22 : decode cX5_isWithoutGain 22 = .ok (.if_icmp .ge 38, 3) := by decide +kernel
theorem dX5_isWithoutGain_25 : decode cX5_isWithoutGain 25 = .ok (.aload_n 0, 1) := by decide +kernel
theorem dX5_isWithoutGain_26 : decode cX5_isWithoutGain 26 = .ok (.getfield 25, 3) := by decide +kernel
theorem dX5_isWithoutGain_29 : decode cX5_isWithoutGain 29 = .ok (.iload 4, 2) := by decide +kernel
theorem dX5_isWithoutGain_31 : decode cX5_isWithoutGain 31 = .ok (.iaload, 1) := by decide +kernel
theorem dX5_isWithoutGain_32 : decode cX5_isWithoutGain 32 = .ok (.ifCond .ne 22, 3) := by decide +kernel
theorem dX5_isWithoutGain_35 : decode cX5_isWithoutGain 35 = .ok (.iload_n 3, 1) := by decide +kernel
theorem dX5_isWithoutGain_36 : decode cX5_isWithoutGain 36 = .ok (.aload_n 0, 1) := by decide +kernel
theorem dX5_isWithoutGain_37 : decode cX5_isWithoutGain 37 = .ok (.getfield 22, 3) := by decide +kernel
theorem dX5_isWithoutGain_40 : decode cX5_isWithoutGain 40 = .ok (.iload 4, 2) := by decide +kernel
theorem dX5_isWithoutGain_42 : decode cX5_isWithoutGain 42 = .ok (.iaload, 1) := by decide +kernel
theorem dX5_isWithoutGain_43 : decode cX5_isWithoutGain 43 = .ok (.iload_n 1, 1) := by decide +kernel
theorem dX5_isWithoutGain_44 : decode cX5_isWithoutGain 44 = .ok (.iand, 1) := by decide +kernel
theorem dX5_isWithoutGain_45 : decode cX5_isWithoutGain 45 = .ok (.iload_n 2, 1) := by decide +kernel
theorem dX5_isWithoutGain_46 : decode cX5_isWithoutGain 46 = .ok (.invokestatic 131, 3) := by decide +kernel
theorem dX5_isWithoutGain_49 : decode cX5_isWithoutGain 49 = .ok (.ifCond .ne 5, 3) := by decide +kernel
theorem dX5_isWithoutGain_52 : decode cX5_isWithoutGain 52 = .ok (.iconst 0, 1) := by decide +kernel
theorem dX5_isWithoutGain_53 : decode cX5_isWithoutGain 53 = .ok (.ireturn, 1) := by decide +kernel
theorem dX5_isWithoutGain_54 : decode cX5_isWithoutGain 54 = .ok (.iinc 4 1, 3) := by decide +kernel
theorem dX5_isWithoutGain_57 : decode cX5_isWithoutGain 57 = .ok (.goto (-40), 3) := by decide +kernel
theorem dX5_isWithoutGain_60 : decode cX5_isWithoutGain 60 = .ok (.iconst 1, 1) := by decide +kernel
theorem dX5_isWithoutGain_61 : decode cX5_isWithoutGain 61 = .ok (.ireturn, 1) := by decide +kernel
theorem dX5_leastRemoval_0 : decode cX5_leastRemoval 0 = .ok (.aload_n 0, 1) := by decide +kernel
theorem dX5_leastRemoval_1 : decode cX5_leastRemoval 1 = .ok (.iconst 1, 1) := by decide +kernel
theorem dX5_leastRemoval_2 : decode cX5_leastRemoval 2 = .ok (.invokevirtual 150, 3) := by decide +kernel
theorem dX5_leastRemoval_5 : decode cX5_leastRemoval 5 = .ok (.iconst 0, 1) := by decide +kernel
theorem dX5_leastRemoval_6 : decode cX5_leastRemoval 6 = .ok (.istore_n 1, 1) := by decide +kernel
theorem dX5_leastRemoval_7 : decode cX5_leastRemoval 7 = .ok (.iload_n 1, 1) := by decide +kernel
theorem dX5_leastRemoval_8 : decode cX5_leastRemoval 8 = .ok (.sipush 1024, 3) := by decide +kernel
theorem dX5_leastRemoval_11 : decode cX5_leastRemoval 11 = .ok (.if_icmp .ge 29, 3) := by decide +kernel
theorem dX5_leastRemoval_14 : decode cX5_leastRemoval 14 = .ok (.aload_n 0, 1) := by decide +kernel
theorem dX5_leastRemoval_15 : decode cX5_leastRemoval 15 = .ok (.getfield 25, 3) := by decide +kernel
theorem dX5_leastRemoval_18 : decode cX5_leastRemoval 18 = .ok (.iload_n 1, 1) := by decide +kernel
theorem dX5_leastRemoval_19 : decode cX5_leastRemoval 19 = .ok (.aload_n 0, 1) := by decide +kernel
theorem dX5_leastRemoval_20 : decode cX5_leastRemoval 20 = .ok (.iconst 0, 1) := by decide +kernel
theorem dX5_leastRemoval_21 : decode cX5_leastRemoval 21 = .ok (.iload_n 1, 1) := by decide +kernel
theorem dX5_leastRemoval_22 : decode cX5_leastRemoval 22 = .ok (.invokevirtual 138, 3) := by decide +kernel
theorem dX5_leastRemoval_25 : decode cX5_leastRemoval 25 = .ok (.ifCond .ne 7, 3) := by decide +kernel
theorem dX5_leastRemoval_28 : decode cX5_leastRemoval 28 = .ok (.iconst 1, 1) := by decide +kernel
theorem dX5_leastRemoval_29 : decode cX5_leastRemoval 29 = .ok (.goto 4, 3) := by decide +kernel
theorem dX5_leastRemoval_32 : decode cX5_leastRemoval 32 = .ok (.iconst 0, 1) := by decide +kernel
theorem dX5_leastRemoval_33 : decode cX5_leastRemoval 33 = .ok (.iastore, 1) := by decide +kernel
theorem dX5_leastRemoval_34 : decode cX5_leastRemoval 34 = .ok (.iinc 1 1, 3) := by decide +kernel
theorem dX5_leastRemoval_37 : decode cX5_leastRemoval 37 = .ok (.goto (-30), 3) := by decide +kernel
theorem dX5_leastRemoval_40 : decode cX5_leastRemoval 40 = .ok (.iconst 1, 1) := by decide +kernel
theorem dX5_leastRemoval_41 : decode cX5_leastRemoval 41 = .ok (.aload_n 0, 1) := by decide +kernel
theorem dX5_leastRemoval_42 : decode cX5_leastRemoval 42 = .ok (.getfield 13, 3) := by decide +kernel
theorem dX5_leastRemoval_45 : decode cX5_leastRemoval 45 = .ok (.bipush 42, 2) := by decide +kernel
theorem dX5_leastRemoval_47 : decode cX5_leastRemoval 47 = .ok (.iaload, 1) := by decide +kernel
theorem dX5_leastRemoval_48 : decode cX5_leastRemoval 48 = .ok (.ishl, 1) := by decide +kernel
theorem dX5_leastRemoval_49 : decode cX5_leastRemoval 49 = .ok (.iconst 1, 1) := by decide +kernel
theorem dX5_leastRemoval_50 : decode cX5_leastRemoval 50 = .ok (.isub, 1) := by decide +kernel
theorem dX5_leastRemoval_51 : decode cX5_leastRemoval 51 = .ok (.istore_n 1, 1) := by decide +kernel
theorem dX5_leastRemoval_52 : decode cX5_leastRemoval 52 = .ok (.iconst 0, 1) := by decide +kernel
theorem dX5_leastRemoval_53 : decode cX5_leastRemoval 53 = .ok (.istore_n 2, 1) := by decide +kernel
theorem dX5_leastRemoval_54 : decode cX5_leastRemoval 54 = .ok (.iload_n 2, 1) := by decide +kernel
theorem dX5_leastRemoval_55 : decode cX5_leastRemoval 55 = .ok (.aload_n 0, 1) := by decide +kernel
theorem dX5_leastRemoval_56 : decode cX5_leastRemoval 56 = .ok (.getfield 13, 3) := by decide +kernel
theorem dX5_leastRemoval_59 : decode cX5_leastRemoval 59 = .ok (.bipush 42, 2) := by decide +kernel
theorem dX5_leastRemoval_61 : decode cX5_leastRemoval 61 = .ok (.iaload, 1) := by decide +kernel
theorem dX5_leastRemoval_62 : decode cX5_leastRemoval 62 = .ok (.if_icmp .gt 44, 3) := by decide +kernel
theorem dX5_leastRemoval_65 : decode cX5_leastRemoval 65 = .ok (.iconst 0, 1) := by decide +kernel
theorem dX5_leastRemoval_66 : decode cX5_leastRemoval 66 = .ok (.istore_n 3, 1) := by decide +kernel
theorem dX5_leastRemoval_67 : decode cX5_leastRemoval 67 = .ok (.iload_n 3, 1) := by decide +kernel
theorem dX5_leastRemoval_68 : decode cX5_leastRemoval 68 = .ok (.iload_n 1, 1) := by decide +kernel
theorem dX5_leastRemoval_69 : decode cX5_leastRemoval 69 = .ok (.if_icmp .gt 31, 3) := by decide +kernel
theorem dX5_leastRemoval_72 : decode cX5_leastRemoval 72 = .ok (.iload_n 3, 1) := by decide +kernel
theorem dX5_leastRemoval_73 : decode cX5_leastRemoval 73 = .ok (.invokestatic 122, 3) := by decide +kernel
theorem dX5_leastRemoval_76 : decode cX5_leastRemoval 76 = .ok (.iload_n 2, 1) := by decide +kernel
theorem dX5_leastRemoval_77 : decode cX5_leastRemoval 77 = .ok (.if_icmp .ne 17, 3) := by decide +kernel
theorem dX5_leastRemoval_80 : decode cX5_leastRemoval 80 = .ok (.aload_n 0, 1) := by decide +kernel
theorem dX5_leastRemoval_81 : decode cX5_leastRemoval 81 = .ok (.iload_n 1, 1) := by decide +kernel
theorem dX5_leastRemoval_82 : decode cX5_leastRemoval 82 = .ok (.iload_n 3, 1) := by decide +kernel
theorem dX5_leastRemoval_83 : decode cX5_leastRemoval 83 = .ok (.iconst (-1), 1) := by decide +kernel
theorem dX5_leastRemoval_84 : decode cX5_leastRemoval 84 = .ok (.ixor, 1) := by decide +kernel
theorem dX5_leastRemoval_85 : decode cX5_leastRemoval 85 = .ok (.iand, 1) := by decide +kernel
theorem dX5_leastRemoval_86 : decode cX5_leastRemoval 86 = .ok (.invokevirtual 160, 3) := by decide +kernel
theorem dX5_leastRemoval_89 : decode cX5_leastRemoval 89 = .ok (.ifCond .eq 5, 3) := by decide +kernel
theorem dX5_leastRemoval_92 : decode cX5_leastRemoval 92 = .ok (.iload_n 3, 1) := by decide +kernel
theorem dX5_leastRemoval_93 : decode cX5_leastRemoval 93 = .ok (.ireturn, 1) := by decide +kernel
theorem dX5_leastRemoval_94 : decode cX5_leastRemoval 94 = .ok (.iinc 3 1, 3) := by decide +kernel
theorem dX5_leastRemoval_97 : decode cX5_leastRemoval 97 = .ok (.goto (-30), 3) := by decide +kernel
theorem dX5_leastRemoval_100 : decode cX5_leastRemoval 100 = .ok (.iinc 2 1, 3) := by decide +kernel
theorem dX5_leastRemoval_103 : decode cX5_leastRemoval 103 = .ok (.goto (-49), 3) := by decide +kernel
theorem dX5_leastRemoval_106 : decode cX5_leastRemoval 106 = .ok (.bipush (-4), 2) := by decide +kernel
theorem dX5_leastRemoval_108 : decode cX5_leastRemoval 108 = .ok (.ireturn, 1) := by decide +kernel
theorem dX5_historySize_0 : decode cX5_historySize 0 = .ok (.aload_n 0, 1) := by decide +kernel
theorem dX5_historySize_1 : decode cX5_historySize 1 = .ok (.getfield 56, 3) := by decide +kernel
theorem dX5_historySize_4 : decode cX5_historySize 4 = .ok (.ireturn, 1) := by decide +kernel
theorem dJ6_lowestOneBit_0f7a4_0 : decode cJ6_lowestOneBit_0f7a4 0 = .ok (.iload_n 0, 1) := by decide +kernel
theorem dJ6_lowestOneBit_0f7a4_1 : decode cJ6_lowestOneBit_0f7a4 1 = .ok (.iload_n 0, 1) := by decide +kernel
theorem dJ6_lowestOneBit_0f7a4_2 : decode cJ6_lowestOneBit_0f7a4 2 = .ok (.ineg, 1) := by decide +kernel
theorem dJ6_lowestOneBit_0f7a4_3 : decode cJ6_lowestOneBit_0f7a4 3 = .ok (.iand, 1) := by decide +kernel
theorem dJ6_lowestOneBit_0f7a4_4 : decode cJ6_lowestOneBit_0f7a4 4 = .ok (.ireturn, 1) := by decide +kernel
theorem dJ6_numberOfLeadingZeros_0f7a4_0 : decode cJ6_numberOfLeadingZeros_0f7a4 0 = .ok (.iload_n 0, 1) := by decide +kernel
theorem dJ6_numberOfLeadingZeros_0f7a4_1 : decode cJ6_numberOfLeadingZeros_0f7a4 1 = .ok (.ifCond .gt 14, 3) := by decide +kernel
theorem dJ6_numberOfLeadingZeros_0f7a4_4 : decode cJ6_numberOfLeadingZeros_0f7a4 4 = .ok (.iload_n 0, 1) := by decide +kernel
theorem dJ6_numberOfLeadingZeros_0f7a4_5 : decode cJ6_numberOfLeadingZeros_0f7a4 5 = .ok (.ifCond .ne 8, 3) := by decide +kernel
theorem dJ6_numberOfLeadingZeros_0f7a4_8 : decode cJ6_numberOfLeadingZeros_0f7a4 8 = .ok (.bipush 32, 2) := by decide +kernel
theorem dJ6_numberOfLeadingZeros_0f7a4_10 : decode cJ6_numberOfLeadingZeros_0f7a4 10 = .ok (.goto 4, 3) := by decide +kernel
theorem dJ6_numberOfLeadingZeros_0f7a4_13 : decode cJ6_numberOfLeadingZeros_0f7a4 13 = .ok (.iconst 0, 1) := by decide +kernel
theorem dJ6_numberOfLeadingZeros_0f7a4_14 : decode cJ6_numberOfLeadingZeros_0f7a4 14 = .ok (.ireturn, 1) := by decide +kernel
theorem dJ6_numberOfLeadingZeros_0f7a4_15 : decode cJ6_numberOfLeadingZeros_0f7a4 15 = .ok (.bipush 31, 2) := by decide +kernel
theorem dJ6_numberOfLeadingZeros_0f7a4_17 : decode cJ6_numberOfLeadingZeros_0f7a4 17 = .ok (.istore_n 1, 1) := by decide +kernel
theorem dJ6_numberOfLeadingZeros_0f7a4_18 : decode cJ6_numberOfLeadingZeros_0f7a4 18 = .ok (.iload_n 0, 1) := by decide +kernel
theorem dJ6_numberOfLeadingZeros_0f7a4_19 : decode cJ6_numberOfLeadingZeros_0f7a4 19 = .ok (.ldc_w 264, 3) := by decide +kernel
theorem dJ6_numberOfLeadingZeros_0f7a4_22 : decode cJ6_numberOfLeadingZeros_0f7a4 22 = .ok (.if_icmp .lt 11, 3) := by decide +kernel
theorem dJ6_numberOfLeadingZeros_0f7a4_25 : decode cJ6_numberOfLeadingZeros_0f7a4 25 = .ok (.iinc 1 (-16), 3) := by decide +kernel
theorem dJ6_numberOfLeadingZeros_0f7a4_28 : decode cJ6_numberOfLeadingZeros_0f7a4 28 = .ok (.iload_n 0, 1) := by decide +kernel
theorem dJ6_numberOfLeadingZeros_0f7a4_29 : decode cJ6_numberOfLeadingZeros_0f7a4 29 = .ok (.bipush 16, 2) := by decide +kernel
theorem dJ6_numberOfLeadingZeros_0f7a4_31 : decode cJ6_numberOfLeadingZeros_0f7a4 31 = .ok (.iushr, 1) := by decide +kernel
theorem dJ6_numberOfLeadingZeros_0f7a4_32 : decode cJ6_numberOfLeadingZeros_0f7a4 32 = .ok (.istore_n 0, 1) := by decide +kernel
theorem dJ6_numberOfLeadingZeros_0f7a4_33 : decode cJ6_numberOfLeadingZeros_0f7a4 33 = .ok (.iload_n 0, 1) := by decide +kernel
theorem dJ6_numberOfLeadingZeros_0f7a4_34 : decode cJ6_numberOfLeadingZeros_0f7a4 34 = .ok (.sipush 256, 3) := by decide +kernel
theorem dJ6_numberOfLeadingZeros_0f7a4_37 : decode cJ6_numberOfLeadingZeros_0f7a4 37 = .ok (.if_icmp .lt 11, 3) := by decide +kernel
theorem dJ6_numberOfLeadingZeros_0f7a4_40 : decode cJ6_numberOfLeadingZeros_0f7a4 40 = .ok (.iinc 1 (-8), 3) := by decide +kernel
theorem dJ6_numberOfLeadingZeros_0f7a4_43 : decode cJ6_numberOfLeadingZeros_0f7a4 43 = .ok (.iload_n 0, 1) := by decide +kernel
theorem dJ6_numberOfLeadingZeros_0f7a4_44 : decode cJ6_numberOfLeadingZeros_0f7a4 44 = .ok (.bipush 8, 2) := by decide +kernel
theorem dJ6_numberOfLeadingZeros_0f7a4_46 : decode cJ6_numberOfLeadingZeros_0f7a4 46 = .ok (.iushr, 1) := by decide +kernel
theorem dJ6_numberOfLeadingZeros_0f7a4_47 : decode cJ6_numberOfLeadingZeros_0f7a4 47 = .ok (.istore_n 0, 1) := by decide +kernel
theorem dJ6_numberOfLeadingZeros_0f7a4_48 : decode cJ6_numberOfLeadingZeros_0f7a4 48 = .ok (.iload_n 0, 1) := by decide +kernel
theorem dJ6_numberOfLeadingZeros_0f7a4_49 : decode cJ6_numberOfLeadingZeros_0f7a4 49 = .ok (.bipush 16, 2) := by decide +kernel
theorem dJ6_numberOfLeadingZeros_0f7a4_51 : decode cJ6_numberOfLeadingZeros_0f7a4 51 = .ok (.if_icmp .lt 10, 3) := by decide +kernel
theorem dJ6_numberOfLeadingZeros_0f7a4_54 : decode cJ6_numberOfLeadingZeros_0f7a4 54 = .ok (.iinc 1 (-4), 3) := by decide +kernel
theorem dJ6_numberOfLeadingZeros_0f7a4_57 : decode cJ6_numberOfLeadingZeros_0f7a4 57 = .ok (.iload_n 0, 1) := by decide +kernel
theorem dJ6_numberOfLeadingZeros_0f7a4_58 : decode cJ6_numberOfLeadingZeros_0f7a4 58 = .ok (.iconst 4, 1) := by decide +kernel
theorem dJ6_numberOfLeadingZeros_0f7a4_59 : decode cJ6_numberOfLeadingZeros_0f7a4 59 = .ok (.iushr, 1) := by decide +kernel
theorem dJ6_numberOfLeadingZeros_0f7a4_60 : decode cJ6_numberOfLeadingZeros_0f7a4 60 = .ok (.istore_n 0, 1) := by decide +kernel
theorem dJ6_numberOfLeadingZeros_0f7a4_61 : decode cJ6_numberOfLeadingZeros_0f7a4 61 = .ok (.iload_n 0, 1) := by decide +kernel
theorem dJ6_numberOfLeadingZeros_0f7a4_62 : decode cJ6_numberOfLeadingZeros_0f7a4 62 = .ok (.iconst 4, 1) := by decide +kernel
theorem dJ6_numberOfLeadingZeros_0f7a4_63 : decode cJ6_numberOfLeadingZeros_0f7a4 63 = .ok (.if_icmp .lt 10, 3) := by decide +kernel
theorem dJ6_numberOfLeadingZeros_0f7a4_66 : decode cJ6_numberOfLeadingZeros_0f7a4 66 = .ok (.iinc 1 (-2), 3) := by decide +kernel
theorem dJ6_numberOfLeadingZeros_0f7a4_69 : decode cJ6_numberOfLeadingZeros_0f7a4 69 = .ok (.iload_n 0, 1) := by decide +kernel
theorem dJ6_numberOfLeadingZeros_0f7a4_70 : decode cJ6_numberOfLeadingZeros_0f7a4 70 = .ok (.iconst 2, 1) := by decide +kernel
theorem dJ6_numberOfLeadingZeros_0f7a4_71 : decode cJ6_numberOfLeadingZeros_0f7a4 71 = .ok (.iushr, 1) := by decide +kernel
theorem dJ6_numberOfLeadingZeros_0f7a4_72 : decode cJ6_numberOfLeadingZeros_0f7a4 72 = .ok (.istore_n 0, 1) := by decide +kernel
theorem dJ6_numberOfLeadingZeros_0f7a4_73 : decode cJ6_numberOfLeadingZeros_0f7a4 73 = .ok (.iload_n 1, 1) := by decide +kernel
theorem dJ6_numberOfLeadingZeros_0f7a4_74 : decode cJ6_numberOfLeadingZeros_0f7a4 74 = .ok (.iload_n 0, 1) := by decide +kernel
theorem dJ6_numberOfLeadingZeros_0f7a4_75 : decode cJ6_numberOfLeadingZeros_0f7a4 75 = .ok (.iconst 1, 1) := by decide +kernel
theorem dJ6_numberOfLeadingZeros_0f7a4_76 : decode cJ6_numberOfLeadingZeros_0f7a4 76 = .ok (.iushr, 1) := by decide +kernel
theorem dJ6_numberOfLeadingZeros_0f7a4_77 : decode cJ6_numberOfLeadingZeros_0f7a4 77 = .ok (.isub, 1) := by decide +kernel
theorem dJ6_numberOfLeadingZeros_0f7a4_78 : decode cJ6_numberOfLeadingZeros_0f7a4 78 = .ok (.ireturn, 1) := by decide +kernel
theorem dJ6_bitCount_0f7a4_0 : decode cJ6_bitCount_0f7a4 0 = .ok (.iload_n 0, 1) := by decide +kernel
theorem dJ6_bitCount_0f7a4_1 : decode cJ6_bitCount_0f7a4 1 = .ok (.iload_n 0, 1) := by decide +kernel
theorem dJ6_bitCount_0f7a4_2 : decode cJ6_bitCount_0f7a4 2 = .ok (.iconst 1, 1) := by decide +kernel
theorem dJ6_bitCount_0f7a4_3 : decode cJ6_bitCount_0f7a4 3 = .ok (.iushr, 1) := by decide +kernel
theorem dJ6_bitCount_0f7a4_4 : decode cJ6_bitCount_0f7a4 4 = .ok (.ldc_w 265, 3) := by decide +kernel
theorem dJ6_bitCount_0f7a4_7 : decode cJ6_bitCount_0f7a4 7 = .ok (.iand, 1) := by decide +kernel
theorem dJ6_bitCount_0f7a4_8 : decode cJ6_bitCount_0f7a4 8 = .ok (.isub, 1) := by decide +kernel
theorem dJ6_bitCount_0f7a4_9 : decode cJ6_bitCount_0f7a4 9 = .ok (.istore_n 0, 1) := by decide +kernel
theorem dJ6_bitCount_0f7a4_10 : decode cJ6_bitCount_0f7a4 10 = .ok (.iload_n 0, 1) := by decide +kernel
theorem dJ6_bitCount_0f7a4_11 : decode cJ6_bitCount_0f7a4 11 = .ok (.ldc_w 266, 3) := by decide +kernel
theorem dJ6_bitCount_0f7a4_14 : decode cJ6_bitCount_0f7a4 14 = .ok (.iand, 1) := by decide +kernel
theorem dJ6_bitCount_0f7a4_15 : decode cJ6_bitCount_0f7a4 15 = .ok (.iload_n 0, 1) := by decide +kernel
theorem dJ6_bitCount_0f7a4_16 : decode cJ6_bitCount_0f7a4 16 = .ok (.iconst 2, 1) := by decide +kernel
theorem dJ6_bitCount_0f7a4_17 : decode cJ6_bitCount_0f7a4 17 = .ok (.iushr, 1) := by decide +kernel
theorem dJ6_bitCount_0f7a4_18 : decode cJ6_bitCount_0f7a4 18 = .ok (.ldc_w 266, 3) := by decide +kernel
theorem dJ6_bitCount_0f7a4_21 : decode cJ6_bitCount_0f7a4 21 = .ok (.iand, 1) := by decide +kernel
theorem dJ6_bitCount_0f7a4_22 : decode cJ6_bitCount_0f7a4 22 = .ok (.iadd, 1) := by decide +kernel
theorem dJ6_bitCount_0f7a4_23 : decode cJ6_bitCount_0f7a4 23 = .ok (.istore_n 0, 1) := by decide +kernel
theorem dJ6_bitCount_0f7a4_24 : decode cJ6_bitCount_0f7a4 24 = .ok (.iload_n 0, 1) := by decide +kernel
theorem dJ6_bitCount_0f7a4_25 : decode cJ6_bitCount_0f7a4 25 = .ok (.iload_n 0, 1) := by decide +kernel
theorem dJ6_bitCount_0f7a4_26 : decode cJ6_bitCount_0f7a4 26 = .ok (.iconst 4, 1) := by decide +kernel
theorem dJ6_bitCount_0f7a4_27 : decode cJ6_bitCount_0f7a4 27 = .ok (.iushr, 1) := by decide +kernel
theorem dJ6_bitCount_0f7a4_28 : decode cJ6_bitCount_0f7a4 28 = .ok (.iadd, 1) := by decide +kernel
theorem dJ6_bitCount_0f7a4_29 : decode cJ6_bitCount_0f7a4 29 = .ok (.ldc_w 267, 3) := by decide +kernel
theorem dJ6_bitCount_0f7a4_32 : decode cJ6_bitCount_0f7a4 32 = .ok (.iand, 1) := by decide +kernel
theorem dJ6_bitCount_0f7a4_33 : decode cJ6_bitCount_0f7a4 33 = .ok (.istore_n 0, 1) := by decide +kernel
theorem dJ6_bitCount_0f7a4_34 : decode cJ6_bitCount_0f7a4 34 = .ok (.iload_n 0, 1) := by decide +kernel
theorem dJ6_bitCount_0f7a4_35 : decode cJ6_bitCount_0f7a4 35 = .ok (.iload_n 0, 1) := by decide +kernel
theorem dJ6_bitCount_0f7a4_36 : decode cJ6_bitCount_0f7a4 36 = .ok (.bipush 8, 2) := by decide +kernel
theorem dJ6_bitCount_0f7a4_38 : decode cJ6_bitCount_0f7a4 38 = .ok (.iushr, 1) := by decide +kernel
theorem dJ6_bitCount_0f7a4_39 : decode cJ6_bitCount_0f7a4 39 = .ok (.iadd, 1) := by decide +kernel
theorem dJ6_bitCount_0f7a4_40 : decode cJ6_bitCount_0f7a4 40 = .ok (.istore_n 0, 1) := by decide +kernel
theorem dJ6_bitCount_0f7a4_41 : decode cJ6_bitCount_0f7a4 41 = .ok (.iload_n 0, 1) := by decide +kernel
theorem dJ6_bitCount_0f7a4_42 : decode cJ6_bitCount_0f7a4 42 = .ok (.iload_n 0, 1) := by decide +kernel
theorem dJ6_bitCount_0f7a4_43 : decode cJ6_bitCount_0f7a4 43 = .ok (.bipush 16, 2) := by decide +kernel
theorem dJ6_bitCount_0f7a4_45 : decode cJ6_bitCount_0f7a4 45 = .ok (.iushr, 1) := by decide +kernel
theorem dJ6_bitCount_0f7a4_46 : decode cJ6_bitCount_0f7a4 46 = .ok (.iadd, 1) := by decide +kernel
theorem dJ6_bitCount_0f7a4_47 : decode cJ6_bitCount_0f7a4 47 = .ok (.istore_n 0, 1) := by decide +kernel
theorem dJ6_bitCount_0f7a4_48 : decode cJ6_bitCount_0f7a4 48 = .ok (.iload_n 0, 1) := by decide +kernel
theorem dJ6_bitCount_0f7a4_49 : decode cJ6_bitCount_0f7a4 49 = .ok (.bipush 63, 2) := by decide +kernel
theorem dJ6_bitCount_0f7a4_51 : decode cJ6_bitCount_0f7a4 51 = .ok (.iand, 1) := by decide +kernel
theorem dJ6_bitCount_0f7a4_52 : decode cJ6_bitCount_0f7a4 52 = .ok (.ireturn, 1) := by decide +kernel
theorem dJ0_length_8abf5_0 : decode cJ0_length_8abf5 0 = .ok (.aload_n 0, 1) := by decide +kernel
theorem dJ0_length_8abf5_1 : decode cJ0_length_8abf5 1 = .ok (.getfield 9, 3) := by decide +kernel
theorem dJ0_length_8abf5_4 : decode cJ0_length_8abf5 4 = .ok (.arraylength, 1) := by decide +kernel
theorem dJ0_length_8abf5_5 : decode cJ0_length_8abf5 5 = .ok (.aload_n 0, 1) := by decide +kernel
theorem dJ0_length_8abf5_6 : decode cJ0_length_8abf5 6 = .ok (.invokevirtual 335, 3) := by decide +kernel
theorem dJ0_length_8abf5_9 : decode cJ0_length_8abf5 9 = .ok (.ishr, 1) := by decide +kernel
theorem dJ0_length_8abf5_10 : decode cJ0_length_8abf5 10 = .ok (.ireturn, 1) := by decide +kernel
theorem dJ0_charAt_5068e_0 : decode cJ0_charAt_5068e 0 = .ok (.aload_n 0, 1) := by decide +kernel
theorem dJ0_charAt_5068e_1 : decode cJ0_charAt_5068e 1 = .ok (.invokevirtual 492, 3) := by decide +kernel
theorem dJ0_charAt_5068e_4 : decode cJ0_charAt_5068e 4 = .ok (.ifCond .eq 12, 3) := by decide +kernel
theorem dJ0_charAt_5068e_7 : decode cJ0_charAt_5068e 7 = .ok (.aload_n 0, 1) := by decide +kernel
theorem dJ0_charAt_5068e_8 : decode cJ0_charAt_5068e 8 = .ok (.getfield 9, 3) := by decide +kernel
theorem dJ0_charAt_5068e_11 : decode cJ0_charAt_5068e 11 = .ok (.iload_n 1, 1) := by decide +kernel
theorem dJ0_charAt_5068e_12 : decode cJ0_charAt_5068e 12 = .ok (.invokestatic 495, 3) := by decide +kernel
theorem dJ0_charAt_5068e_15 : decode cJ0_charAt_5068e 15 = .ok (.ireturn, 1) := by decide +kernel
theorem dJ0_charAt_5068e_16 : decode cJ0_charAt_5068e 16 = .ok (.aload_n 0, 1) := by decide +kernel
theorem dJ0_charAt_5068e_17 : decode cJ0_charAt_5068e 17 = .ok (.getfield 9, 3) := by decide +kernel
theorem dJ0_charAt_5068e_20 : decode cJ0_charAt_5068e 20 = .ok (.iload_n 1, 1) := by decide +kernel
theorem dJ0_charAt_5068e_21 : decode cJ0_charAt_5068e 21 = .ok (.invokestatic 498, 3) := by decide +kernel
theorem dJ0_charAt_5068e_24 : decode cJ0_charAt_5068e 24 = .ok (.ireturn, 1) := by decide +kernel
theorem dJ0_coder_7d493_0 : decode cJ0_coder_7d493 0 = .ok (.getstatic 38, 3) := by decide +kernel
theorem dJ0_coder_7d493_3 : decode cJ0_coder_7d493 3 = .ok (.ifCond .eq 10, 3) := by decide +kernel
theorem dJ0_coder_7d493_6 : decode cJ0_coder_7d493 6 = .ok (.aload_n 0, 1) := by decide +kernel
theorem dJ0_coder_7d493_7 : decode cJ0_coder_7d493 7 = .ok (.getfield 15, 3) := by decide +kernel
theorem dJ0_coder_7d493_10 : decode cJ0_coder_7d493 10 = .ok (.goto 4, 3) := by decide +kernel
theorem dJ0_coder_7d493_13 : decode cJ0_coder_7d493 13 = .ok (.iconst 1, 1) := by decide +kernel
theorem dJ0_coder_7d493_14 : decode cJ0_coder_7d493 14 = .ok (.ireturn, 1) := by decide +kernel
theorem dJ0_isLatin1_aae02_0 : decode cJ0_isLatin1_aae02 0 = .ok (.getstatic 38, 3) := by decide +kernel
theorem dJ0_isLatin1_aae02_3 : decode cJ0_isLatin1_aae02 3 = .ok (.ifCond .eq 14, 3) := by decide +kernel
theorem dJ0_isLatin1_aae02_6 : decode cJ0_isLatin1_aae02 6 = .ok (.aload_n 0, 1) := by decide +kernel
theorem dJ0_isLatin1_aae02_7 : decode cJ0_isLatin1_aae02 7 = .ok (.getfield 15, 3) := by decide +kernel
theorem dJ0_isLatin1_aae02_10 : decode cJ0_isLatin1_aae02 10 = .ok (.ifCond .ne 7, 3) := by decide +kernel
theorem dJ0_isLatin1_aae02_13 : decode cJ0_isLatin1_aae02 13 = .ok (.iconst 1, 1) := by decide +kernel
theorem dJ0_isLatin1_aae02_14 : decode cJ0_isLatin1_aae02 14 = .ok (.goto 4, 3) := by decide +kernel
theorem dJ0_isLatin1_aae02_17 : decode cJ0_isLatin1_aae02 17 = .ok (.iconst 0, 1) := by decide +kernel
theorem dJ0_isLatin1_aae02_18 : decode cJ0_isLatin1_aae02 18 = .ok (.ireturn, 1) := by decide +kernel
theorem dJ0_checkIndex_df160_0 : decode cJ0_checkIndex_df160 0 = .ok (.iload_n 0, 1) := by decide +kernel
theorem dJ0_checkIndex_df160_1 : decode cJ0_checkIndex_df160 1 = .ok (.iload_n 1, 1) := by decide +kernel
theorem dJ0_checkIndex_df160_2 : decode cJ0_checkIndex_df160 2 = .ok (.getstatic 1053, 3) := by decide +kernel
theorem dJ0_checkIndex_df160_5 : decode cJ0_checkIndex_df160 5 = .ok (.invokestatic 1059, 3) := by decide +kernel
theorem dJ0_checkIndex_df160_8 : decode cJ0_checkIndex_df160 8 = .ok (.pop, 1) := by decide +kernel
theorem dJ0_checkIndex_df160_9 : decode cJ0_checkIndex_df160 9 = .ok (.return_, 1) := by decide +kernel
theorem dJ1_charAt_3b067_0 : decode cJ1_charAt_3b067 0 = .ok (.iload_n 1, 1) := by decide +kernel
theorem dJ1_charAt_3b067_1 : decode cJ1_charAt_3b067 1 = .ok (.aload_n 0, 1) := by decide +kernel
theorem dJ1_charAt_3b067_2 : decode cJ1_charAt_3b067 2 = .ok (.arraylength, 1) := by decide +kernel
theorem dJ1_charAt_3b067_3 : decode cJ1_charAt_3b067 3 = .ok (.invokestatic 9, 3) := by decide +kernel
theorem dJ1_charAt_3b067_6 : decode cJ1_charAt_3b067 6 = .ok (.aload_n 0, 1) := by decide +kernel
theorem dJ1_charAt_3b067_7 : decode cJ1_charAt_3b067 7 = .ok (.iload_n 1, 1) := by decide +kernel
theorem dJ1_charAt_3b067_8 : decode cJ1_charAt_3b067 8 = .ok (.baload, 1) := by decide +kernel
theorem dJ1_charAt_3b067_9 : decode cJ1_charAt_3b067 9 = .ok (.sipush 255, 3) := by decide +kernel
theorem dJ1_charAt_3b067_12 : decode cJ1_charAt_3b067 12 = .ok (.iand, 1) := by decide +kernel
theorem dJ1_charAt_3b067_13 : decode cJ1_charAt_3b067 13 = .ok (.i2c, 1) := by decide +kernel
theorem dJ1_charAt_3b067_14 : decode cJ1_charAt_3b067 14 = .ok (.ireturn, 1) := by decide +kernel
theorem dJ7_fill_53178_0 : decode cJ7_fill_53178 0 = .ok (.iconst 0, 1) := by decide +kernel
theorem dJ7_fill_53178_1 : decode cJ7_fill_53178 1 = .ok (.istore_n 2, 1) := by decide +kernel
theorem dJ7_fill_53178_2 : decode cJ7_fill_53178 2 = .ok (.aload_n 0, 1) := by decide +kernel
theorem dJ7_fill_53178_3 : decode cJ7_fill_53178 3 = .ok (.arraylength, 1) := by decide +kernel
theorem dJ7_fill_53178_4 : decode cJ7_fill_53178 4 = .ok (.istore_n 3, 1) := by decide +kernel
theorem dJ7_fill_53178_5 : decode cJ7_fill_53178 5 = .ok (.iload_n 2, 1) := by decide +kernel
theorem dJ7_fill_53178_6 : decode cJ7_fill_53178 6 = .ok (.iload_n 3, 1) := by decide +kernel
theorem dJ7_fill_53178_7 : decode cJ7_fill_53178 7 = .ok (.if_icmp .ge 13, 3) := by decide +kernel
theorem dJ7_fill_53178_10 : decode cJ7_fill_53178 10 = .ok (.aload_n 0, 1) := by decide +kernel
theorem dJ7_fill_53178_11 : decode cJ7_fill_53178 11 = .ok (.iload_n 2, 1) := by decide +kernel
theorem dJ7_fill_53178_12 : decode cJ7_fill_53178 12 = .ok (.iload_n 1, 1) := by decide +kernel
theorem dJ7_fill_53178_13 : decode cJ7_fill_53178 13 = .ok (.iastore, 1) := by decide +kernel
theorem dJ7_fill_53178_14 : decode cJ7_fill_53178 14 = .ok (.iinc 2 1, 3) := by decide +kernel
theorem dJ7_fill_53178_17 : decode cJ7_fill_53178 17 = .ok (.goto (-12), 3) := by decide +kernel
theorem dJ7_fill_53178_20 : decode cJ7_fill_53178 20 = .ok (.return_, 1) := by decide +kernel
theorem dJ3_checkIndex_8e157_0 : decode cJ3_checkIndex_8e157 0 = .ok (.iload_n 0, 1) := by decide +kernel
theorem dJ3_checkIndex_8e157_1 : decode cJ3_checkIndex_8e157 1 = .ok (.ifCond .lt 8, 3) := by decide +kernel
theorem dJ3_checkIndex_8e157_4 : decode cJ3_checkIndex_8e157 4 = .ok (.iload_n 0, 1) := by decide +kernel
theorem dJ3_checkIndex_8e157_5 : decode cJ3_checkIndex_8e157 5 = .ok (.iload_n 1, 1) := by decide +kernel
theorem dJ3_checkIndex_8e157_6 : decode cJ3_checkIndex_8e157 6 = .ok (.if_icmp .lt 10, 3) := by decide +kernel
theorem dJ3_checkIndex_8e157_9 : decode cJ3_checkIndex_8e157 9 = .ok (.aload_n 2, 1) := by decide +kernel
theorem dJ3_checkIndex_8e157_10 : decode cJ3_checkIndex_8e157 10 = .ok (.iload_n 0, 1) := by decide +kernel
theorem dJ3_checkIndex_8e157_11 : decode cJ3_checkIndex_8e157 11 = .ok (.iload_n 1, 1) := by decide +kernel
theorem dJ3_checkIndex_8e157_12 : decode cJ3_checkIndex_8e157 12 = .ok (.invokestatic 95, 3) := by decide +kernel
theorem dJ3_checkIndex_8e157_15 : decode cJ3_checkIndex_8e157 15 = .ok (.athrow, 1) := by decide +kernel
theorem dJ3_checkIndex_8e157_16 : decode cJ3_checkIndex_8e157 16 = .ok (.iload_n 0, 1) := by decide +kernel
theorem dJ3_checkIndex_8e157_17 : decode cJ3_checkIndex_8e157 17 = .ok (.ireturn, 1) := by decide +kernel
end
section
theorem dL_law_0 : decode cL_law 0 = .ok (.new 7, 3) := by decide +kernel
theorem dL_law_3 : decode cL_law 3 = .ok (.dup, 1) := by decide +kernel
theorem dL_law_4 : decode cL_law 4 = .ok (.invokespecial 9, 3) := by decide +kernel
theorem dL_law_7 : decode cL_law 7 = .ok (.astore_n 1, 1) := by decide +kernel
theorem dL_law_8 : decode cL_law 8 = .ok (.new 10, 3) := by decide +kernel
theorem dL_law_11 : decode cL_law 11 = .ok (.dup, 1) := by decide +kernel
theorem dL_law_12 : decode cL_law 12 = .ok (.invokespecial 12, 3) := by decide +kernel
theorem dL_law_15 : decode cL_law 15 = .ok (.astore_n 2, 1) := by decide +kernel
theorem dL_law_16 : decode cL_law 16 = .ok (.iconst 0, 1) := by decide +kernel
theorem dL_law_17 : decode cL_law 17 = .ok (.istore_n 3, 1) := by decide +kernel
theorem dL_law_18 : decode cL_law 18 = .ok (.iload_n 3, 1) := by decide +kernel
theorem dL_law_19 : decode cL_law 19 = .ok (.aload_n 0, 1) := by decide +kernel
theorem dL_law_20 : decode cL_law 20 = .ok (.arraylength, 1) := by decide +kernel
theorem dL_law_21 : decode cL_law 21 = .ok (.iconst 5, 1) := by decide +kernel
theorem dL_law_22 : decode cL_law 22 = .ok (.isub, 1) := by decide +kernel
theorem dL_law_23 : decode cL_law 23 = .ok (.if_icmp .gt 978, 3) := by decide +kernel
theorem dL_law_26 : decode cL_law 26 = .ok (.aload_n 0, 1) := by decide +kernel
theorem dL_law_27 : decode cL_law 27 = .ok (.iload_n 3, 1) := by decide +kernel
theorem dL_law_28 : decode cL_law 28 = .ok (.iaload, 1) := by decide +kernel
theorem dL_law_29 : decode cL_law 29 = .ok (.bipush 31, 2) := by decide +kernel
theorem dL_law_31 : decode cL_law 31 = .ok (.iand, 1) := by decide +kernel
theorem dL_law_32 : decode cL_law 32 = .ok (.tableswitch 963 0 30 #[140, 163, 176, 189, 202, 245, 278, 321, 354, 407, 440, 453, 466, 489, 522, 565, 588, 621, 654, 687, 700, 713, 746, 769, 792, 825, 848, 881, 914, 937, 950], 140) := by decide +kernel
theorem dL_law_172 : decode cL_law 172 = .ok (.aload_n 1, 1) := by decide +kernel
theorem dL_law_173 : decode cL_law 173 = .ok (.aload_n 0, 1) := by decide +kernel
theorem dL_law_174 : decode cL_law 174 = .ok (.iload_n 3, 1) := by decide +kernel
theorem dL_law_175 : decode cL_law 175 = .ok (.iconst 1, 1) := by decide +kernel
theorem dL_law_176 : decode cL_law 176 = .ok (.iadd, 1) := by decide +kernel
theorem dL_law_177 : decode cL_law 177 = .ok (.iaload, 1) := by decide +kernel
theorem dL_law_178 : decode cL_law 178 = .ok (.invokevirtual 13, 3) := by decide +kernel
theorem dL_law_181 : decode cL_law 181 = .ok (.aload_n 2, 1) := by decide +kernel
theorem dL_law_182 : decode cL_law 182 = .ok (.aload_n 0, 1) := by decide +kernel
theorem dL_law_183 : decode cL_law 183 = .ok (.iload_n 3, 1) := by decide +kernel
theorem dL_law_184 : decode cL_law 184 = .ok (.iconst 1, 1) := by decide +kernel
theorem dL_law_185 : decode cL_law 185 = .ok (.iadd, 1) := by decide +kernel
theorem dL_law_186 : decode cL_law 186 = .ok (.iaload, 1) := by decide +kernel
theorem dL_law_187 : decode cL_law 187 = .ok (.invokevirtual 17, 3) := by decide +kernel
theorem dL_law_190 : decode cL_law 190 = .ok (.if_icmp .eq 805, 3) := by decide +kernel
theorem dL_law_193 : decode cL_law 193 = .ok (.iconst 0, 1) := by decide +kernel
theorem dL_law_194 : decode cL_law 194 = .ok (.ireturn, 1) := by decide +kernel
theorem dL_law_195 : decode cL_law 195 = .ok (.aload_n 1, 1) := by decide +kernel
theorem dL_law_196 : decode cL_law 196 = .ok (.invokevirtual 18, 3) := by decide +kernel
theorem dL_law_199 : decode cL_law 199 = .ok (.aload_n 2, 1) := by decide +kernel
theorem dL_law_200 : decode cL_law 200 = .ok (.invokevirtual 22, 3) := by decide +kernel
theorem dL_law_203 : decode cL_law 203 = .ok (.if_icmp .eq 792, 3) := by decide +kernel
theorem dL_law_206 : decode cL_law 206 = .ok (.iconst 0, 1) := by decide +kernel
theorem dL_law_207 : decode cL_law 207 = .ok (.ireturn, 1) := by decide +kernel
theorem dL_law_208 : decode cL_law 208 = .ok (.aload_n 1, 1) := by decide +kernel
theorem dL_law_209 : decode cL_law 209 = .ok (.invokevirtual 23, 3) := by decide +kernel
theorem dL_law_212 : decode cL_law 212 = .ok (.aload_n 2, 1) := by decide +kernel
theorem dL_law_213 : decode cL_law 213 = .ok (.invokevirtual 26, 3) := by decide +kernel
theorem dL_law_216 : decode cL_law 216 = .ok (.if_icmp .eq 779, 3) := by decide +kernel
theorem dL_law_219 : decode cL_law 219 = .ok (.iconst 0, 1) := by decide +kernel
theorem dL_law_220 : decode cL_law 220 = .ok (.ireturn, 1) := by decide +kernel
theorem dL_law_221 : decode cL_law 221 = .ok (.aload_n 1, 1) := by decide +kernel
theorem dL_law_222 : decode cL_law 222 = .ok (.invokevirtual 27, 3) := by decide +kernel
theorem dL_law_225 : decode cL_law 225 = .ok (.aload_n 2, 1) := by decide +kernel
theorem dL_law_226 : decode cL_law 226 = .ok (.invokevirtual 30, 3) := by decide +kernel
theorem dL_law_229 : decode cL_law 229 = .ok (.if_icmp .eq 766, 3) := by decide +kernel
theorem dL_law_232 : decode cL_law 232 = .ok (.iconst 0, 1) := by decide +kernel
theorem dL_law_233 : decode cL_law 233 = .ok (.ireturn, 1) := by decide +kernel
theorem dL_law_234 : decode cL_law 234 = .ok (.aload_n 1, 1) := by decide +kernel
theorem dL_law_235 : decode cL_law 235 = .ok (.aload_n 0, 1) := by decide +kernel
theorem dL_law_236 : decode cL_law 236 = .ok (.iload_n 3, 1) := by decide +kernel
theorem dL_law_237 : decode cL_law 237 = .ok (.iconst 1, 1) := by decide +kernel
theorem dL_law_238 : decode cL_law 238 = .ok (.iadd, 1) := by decide +kernel
theorem dL_law_239 : decode cL_law 239 = .ok (.iaload, 1) := by decide +kernel
theorem dL_law_240 : decode cL_law 240 = .ok (.aload_n 0, 1) := by decide +kernel
theorem dL_law_241 : decode cL_law 241 = .ok (.iload_n 3, 1) := by decide +kernel
theorem dL_law_242 : decode cL_law 242 = .ok (.iconst 2, 1) := by decide +kernel
theorem dL_law_243 : decode cL_law 243 = .ok (.iadd, 1) := by decide +kernel
theorem dL_law_244 : decode cL_law 244 = .ok (.iaload, 1) := by decide +kernel
theorem dL_law_245 : decode cL_law 245 = .ok (.aload_n 0, 1) := by decide +kernel
theorem dL_law_246 : decode cL_law 246 = .ok (.iload_n 3, 1) := by decide +kernel
theorem dL_law_247 : decode cL_law 247 = .ok (.iconst 3, 1) := by decide +kernel
theorem dL_law_248 : decode cL_law 248 = .ok (.iadd, 1) := by decide +kernel
theorem dL_law_249 : decode cL_law 249 = .ok (.iaload, 1) := by decide +kernel
theorem dL_law_250 : decode cL_law 250 = .ok (.invokevirtual 31, 3) := by decide +kernel
theorem dL_law_253 : decode cL_law 253 = .ok (.aload_n 2, 1) := by decide +kernel
theorem dL_law_254 : decode cL_law 254 = .ok (.aload_n 0, 1) := by decide +kernel
theorem dL_law_255 : decode cL_law 255 = .ok (.iload_n 3, 1) := by decide +kernel
theorem dL_law_256 : decode cL_law 256 = .ok (.iconst 1, 1) := by decide +kernel
theorem dL_law_257 : decode cL_law 257 = .ok (.iadd, 1) := by decide +kernel
theorem dL_law_258 : decode cL_law 258 = .ok (.iaload, 1) := by decide +kernel
theorem dL_law_259 : decode cL_law 259 = .ok (.aload_n 0, 1) := by decide +kernel
theorem dL_law_260 : decode cL_law 260 = .ok (.iload_n 3, 1) := by decide +kernel
theorem dL_law_261 : decode cL_law 261 = .ok (.iconst 2, 1) := by decide +kernel
theorem dL_law_262 : decode cL_law 262 = .ok (.iadd, 1) := by decide +kernel
theorem dL_law_263 : decode cL_law 263 = .ok (.iaload, 1) := by decide +kernel
theorem dL_law_264 : decode cL_law 264 = .ok (.aload_n 0, 1) := by decide +kernel
theorem dL_law_265 : decode cL_law 265 = .ok (.iload_n 3, 1) := by decide +kernel
theorem dL_law_266 : decode cL_law 266 = .ok (.iconst 3, 1) := by decide +kernel
theorem dL_law_267 : decode cL_law 267 = .ok (.iadd, 1) := by decide +kernel
theorem dL_law_268 : decode cL_law 268 = .ok (.iaload, 1) := by decide +kernel
theorem dL_law_269 : decode cL_law 269 = .ok (.invokevirtual 35, 3) := by decide +kernel
theorem dL_law_272 : decode cL_law 272 = .ok (.if_icmp .eq 723, 3) := by decide +kernel
theorem dL_law_275 : decode cL_law 275 = .ok (.iconst 0, 1) := by decide +kernel
theorem dL_law_276 : decode cL_law 276 = .ok (.ireturn, 1) := by decide +kernel
theorem dL_law_277 : decode cL_law 277 = .ok (.aload_n 1, 1) := by decide +kernel
theorem dL_law_278 : decode cL_law 278 = .ok (.aload_n 0, 1) := by decide +kernel
theorem dL_law_279 : decode cL_law 279 = .ok (.iload_n 3, 1) := by decide +kernel
theorem dL_law_280 : decode cL_law 280 = .ok (.iconst 1, 1) := by decide +kernel
theorem dL_law_281 : decode cL_law 281 = .ok (.iadd, 1) := by decide +kernel
theorem dL_law_282 : decode cL_law 282 = .ok (.iaload, 1) := by decide +kernel
theorem dL_law_283 : decode cL_law 283 = .ok (.aload_n 0, 1) := by decide +kernel
theorem dL_law_284 : decode cL_law 284 = .ok (.iload_n 3, 1) := by decide +kernel
theorem dL_law_285 : decode cL_law 285 = .ok (.iconst 2, 1) := by decide +kernel
theorem dL_law_286 : decode cL_law 286 = .ok (.iadd, 1) := by decide +kernel
theorem dL_law_287 : decode cL_law 287 = .ok (.iaload, 1) := by decide +kernel
theorem dL_law_288 : decode cL_law 288 = .ok (.invokevirtual 36, 3) := by decide +kernel
theorem dL_law_291 : decode cL_law 291 = .ok (.aload_n 2, 1) := by decide +kernel
theorem dL_law_292 : decode cL_law 292 = .ok (.aload_n 0, 1) := by decide +kernel
theorem dL_law_293 : decode cL_law 293 = .ok (.iload_n 3, 1) := by decide +kernel
theorem dL_law_294 : decode cL_law 294 = .ok (.iconst 1, 1) := by decide +kernel
theorem dL_law_295 : decode cL_law 295 = .ok (.iadd, 1) := by decide +kernel
theorem dL_law_296 : decode cL_law 296 = .ok (.iaload, 1) := by decide +kernel
theorem dL_law_297 : decode cL_law 297 = .ok (.aload_n 0, 1) := by decide +kernel
theorem dL_law_298 : decode cL_law 298 = .ok (.iload_n 3, 1) := by decide +kernel
theorem dL_law_299 : decode cL_law 299 = .ok (.iconst 2, 1) := by decide +kernel
theorem dL_law_300 : decode cL_law 300 = .ok (.iadd, 1) := by decide +kernel
theorem dL_law_301 : decode cL_law 301 = .ok (.iaload, 1) := by decide +kernel
theorem dL_law_302 : decode cL_law 302 = .ok (.invokevirtual 40, 3) := by decide +kernel
theorem dL_law_305 : decode cL_law 305 = .ok (.if_icmp .eq 690, 3) := by decide +kernel
theorem dL_law_308 : decode cL_law 308 = .ok (.iconst 0, 1) := by decide +kernel
theorem dL_law_309 : decode cL_law 309 = .ok (.ireturn, 1) := by decide +kernel
theorem dL_law_310 : decode cL_law 310 = .ok (.aload_n 1, 1) := by decide +kernel
theorem dL_law_311 : decode cL_law 311 = .ok (.aload_n 0, 1) := by decide +kernel
theorem dL_law_312 : decode cL_law 312 = .ok (.iload_n 3, 1) := by decide +kernel
theorem dL_law_313 : decode cL_law 313 = .ok (.iconst 1, 1) := by decide +kernel
theorem dL_law_314 : decode cL_law 314 = .ok (.iadd, 1) := by decide +kernel
theorem dL_law_315 : decode cL_law 315 = .ok (.iaload, 1) := by decide +kernel
theorem dL_law_316 : decode cL_law 316 = .ok (.aload_n 0, 1) := by decide +kernel
theorem dL_law_317 : decode cL_law 317 = .ok (.iload_n 3, 1) := by decide +kernel
theorem dL_law_318 : decode cL_law 318 = .ok (.iconst 2, 1) := by decide +kernel
theorem dL_law_319 : decode cL_law 319 = .ok (.iadd, 1) := by decide +kernel
theorem dL_law_320 : decode cL_law 320 = .ok (.iaload, 1) := by decide +kernel
theorem dL_law_321 : decode cL_law 321 = .ok (.aload_n 0, 1) := by decide +kernel
theorem dL_law_322 : decode cL_law 322 = .ok (.iload_n 3, 1) := by decide +kernel
theorem dL_law_323 : decode cL_law 323 = .ok (.iconst 3, 1) := by decide +kernel
theorem dL_law_324 : decode cL_law 324 = .ok (.iadd, 1) := by decide +kernel
theorem dL_law_325 : decode cL_law 325 = .ok (.iaload, 1) := by decide +kernel
theorem dL_law_326 : decode cL_law 326 = .ok (.invokevirtual 41, 3) := by decide +kernel
theorem dL_law_329 : decode cL_law 329 = .ok (.aload_n 2, 1) := by decide +kernel
theorem dL_law_330 : decode cL_law 330 = .ok (.aload_n 0, 1) := by decide +kernel
theorem dL_law_331 : decode cL_law 331 = .ok (.iload_n 3, 1) := by decide +kernel
theorem dL_law_332 : decode cL_law 332 = .ok (.iconst 1, 1) := by decide +kernel
theorem dL_law_333 : decode cL_law 333 = .ok (.iadd, 1) := by decide +kernel
theorem dL_law_334 : decode cL_law 334 = .ok (.iaload, 1) := by decide +kernel
theorem dL_law_335 : decode cL_law 335 = .ok (.aload_n 0, 1) := by decide +kernel
theorem dL_law_336 : decode cL_law 336 = .ok (.iload_n 3, 1) := by decide +kernel
theorem dL_law_337 : decode cL_law 337 = .ok (.iconst 2, 1) := by decide +kernel
theorem dL_law_338 : decode cL_law 338 = .ok (.iadd, 1) := by decide +kernel
theorem dL_law_339 : decode cL_law 339 = .ok (.iaload, 1) := by decide +kernel
theorem dL_law_340 : decode cL_law 340 = .ok (.aload_n 0, 1) := by decide +kernel
theorem dL_law_341 : decode cL_law 341 = .ok (.iload_n 3, 1) := by decide +kernel
theorem dL_law_342 : decode cL_law 342 = .ok (.iconst 3, 1) := by decide +kernel
theorem dL_law_343 : decode cL_law 343 = .ok (.iadd, 1) := by decide +kernel
theorem dL_law_344 : decode cL_law 344 = .ok (.iaload, 1) := by decide +kernel
theorem dL_law_345 : decode cL_law 345 = .ok (.invokevirtual 44, 3) := by decide +kernel
theorem dL_law_348 : decode cL_law 348 = .ok (.if_icmp .eq 647, 3) := by decide +kernel
theorem dL_law_351 : decode cL_law 351 = .ok (.iconst 0, 1) := by decide +kernel
theorem dL_law_352 : decode cL_law 352 = .ok (.ireturn, 1) := by decide +kernel
theorem dL_law_353 : decode cL_law 353 = .ok (.aload_n 1, 1) := by decide +kernel
theorem dL_law_354 : decode cL_law 354 = .ok (.aload_n 0, 1) := by decide +kernel
theorem dL_law_355 : decode cL_law 355 = .ok (.iload_n 3, 1) := by decide +kernel
theorem dL_law_356 : decode cL_law 356 = .ok (.iconst 1, 1) := by decide +kernel
theorem dL_law_357 : decode cL_law 357 = .ok (.iadd, 1) := by decide +kernel
theorem dL_law_358 : decode cL_law 358 = .ok (.iaload, 1) := by decide +kernel
theorem dL_law_359 : decode cL_law 359 = .ok (.aload_n 0, 1) := by decide +kernel
theorem dL_law_360 : decode cL_law 360 = .ok (.iload_n 3, 1) := by decide +kernel
theorem dL_law_361 : decode cL_law 361 = .ok (.iconst 2, 1) := by decide +kernel
theorem dL_law_362 : decode cL_law 362 = .ok (.iadd, 1) := by decide +kernel
theorem dL_law_363 : decode cL_law 363 = .ok (.iaload, 1) := by decide +kernel
theorem dL_law_364 : decode cL_law 364 = .ok (.invokevirtual 45, 3) := by decide +kernel
theorem dL_law_367 : decode cL_law 367 = .ok (.aload_n 2, 1) := by decide +kernel
theorem dL_law_368 : decode cL_law 368 = .ok (.aload_n 0, 1) := by decide +kernel
theorem dL_law_369 : decode cL_law 369 = .ok (.iload_n 3, 1) := by decide +kernel
theorem dL_law_370 : decode cL_law 370 = .ok (.iconst 1, 1) := by decide +kernel
theorem dL_law_371 : decode cL_law 371 = .ok (.iadd, 1) := by decide +kernel
theorem dL_law_372 : decode cL_law 372 = .ok (.iaload, 1) := by decide +kernel
theorem dL_law_373 : decode cL_law 373 = .ok (.aload_n 0, 1) := by decide +kernel
theorem dL_law_374 : decode cL_law 374 = .ok (.iload_n 3, 1) := by decide +kernel
theorem dL_law_375 : decode cL_law 375 = .ok (.iconst 2, 1) := by decide +kernel
theorem dL_law_376 : decode cL_law 376 = .ok (.iadd, 1) := by decide +kernel
theorem dL_law_377 : decode cL_law 377 = .ok (.iaload, 1) := by decide +kernel
theorem dL_law_378 : decode cL_law 378 = .ok (.invokevirtual 48, 3) := by decide +kernel
theorem dL_law_381 : decode cL_law 381 = .ok (.if_icmp .eq 614, 3) := by decide +kernel
theorem dL_law_384 : decode cL_law 384 = .ok (.iconst 0, 1) := by decide +kernel
theorem dL_law_385 : decode cL_law 385 = .ok (.ireturn, 1) := by decide +kernel
theorem dL_law_386 : decode cL_law 386 = .ok (.aload_n 1, 1) := by decide +kernel
theorem dL_law_387 : decode cL_law 387 = .ok (.aload_n 0, 1) := by decide +kernel
theorem dL_law_388 : decode cL_law 388 = .ok (.iload_n 3, 1) := by decide +kernel
theorem dL_law_389 : decode cL_law 389 = .ok (.iconst 1, 1) := by decide +kernel
theorem dL_law_390 : decode cL_law 390 = .ok (.iadd, 1) := by decide +kernel
theorem dL_law_391 : decode cL_law 391 = .ok (.iaload, 1) := by decide +kernel
theorem dL_law_392 : decode cL_law 392 = .ok (.aload_n 0, 1) := by decide +kernel
theorem dL_law_393 : decode cL_law 393 = .ok (.iload_n 3, 1) := by decide +kernel
theorem dL_law_394 : decode cL_law 394 = .ok (.iconst 2, 1) := by decide +kernel
theorem dL_law_395 : decode cL_law 395 = .ok (.iadd, 1) := by decide +kernel
theorem dL_law_396 : decode cL_law 396 = .ok (.iaload, 1) := by decide +kernel
theorem dL_law_397 : decode cL_law 397 = .ok (.aload_n 0, 1) := by decide +kernel
theorem dL_law_398 : decode cL_law 398 = .ok (.iload_n 3, 1) := by decide +kernel
theorem dL_law_399 : decode cL_law 399 = .ok (.iconst 3, 1) := by decide +kernel
theorem dL_law_400 : decode cL_law 400 = .ok (.iadd, 1) := by decide +kernel
theorem dL_law_401 : decode cL_law 401 = .ok (.iaload, 1) := by decide +kernel
theorem dL_law_402 : decode cL_law 402 = .ok (.aload_n 0, 1) := by decide +kernel
theorem dL_law_403 : decode cL_law 403 = .ok (.iload_n 3, 1) := by decide +kernel
theorem dL_law_404 : decode cL_law 404 = .ok (.iconst 4, 1) := by decide +kernel
theorem dL_law_405 : decode cL_law 405 = .ok (.iadd, 1) := by decide +kernel
theorem dL_law_406 : decode cL_law 406 = .ok (.iaload, 1) := by decide +kernel
theorem dL_law_407 : decode cL_law 407 = .ok (.invokevirtual 49, 3) := by decide +kernel
theorem dL_law_410 : decode cL_law 410 = .ok (.aload_n 2, 1) := by decide +kernel
theorem dL_law_411 : decode cL_law 411 = .ok (.aload_n 0, 1) := by decide +kernel
theorem dL_law_412 : decode cL_law 412 = .ok (.iload_n 3, 1) := by decide +kernel
theorem dL_law_413 : decode cL_law 413 = .ok (.iconst 1, 1) := by decide +kernel
theorem dL_law_414 : decode cL_law 414 = .ok (.iadd, 1) := by decide +kernel
theorem dL_law_415 : decode cL_law 415 = .ok (.iaload, 1) := by decide +kernel
theorem dL_law_416 : decode cL_law 416 = .ok (.aload_n 0, 1) := by decide +kernel
theorem dL_law_417 : decode cL_law 417 = .ok (.iload_n 3, 1) := by decide +kernel
theorem dL_law_418 : decode cL_law 418 = .ok (.iconst 2, 1) := by decide +kernel
theorem dL_law_419 : decode cL_law 419 = .ok (.iadd, 1) := by decide +kernel
theorem dL_law_420 : decode cL_law 420 = .ok (.iaload, 1) := by decide +kernel
theorem dL_law_421 : decode cL_law 421 = .ok (.aload_n 0, 1) := by decide +kernel
theorem dL_law_422 : decode cL_law 422 = .ok (.iload_n 3, 1) := by decide +kernel
theorem dL_law_423 : decode cL_law 423 = .ok (.iconst 3, 1) := by decide +kernel
theorem dL_law_424 : decode cL_law 424 = .ok (.iadd, 1) := by decide +kernel
theorem dL_law_425 : decode cL_law 425 = .ok (.iaload, 1) := by decide +kernel
theorem dL_law_426 : decode cL_law 426 = .ok (.aload_n 0, 1) := by decide +kernel
theorem dL_law_427 : decode cL_law 427 = .ok (.iload_n 3, 1) := by decide +kernel
theorem dL_law_428 : decode cL_law 428 = .ok (.iconst 4, 1) := by decide +kernel
theorem dL_law_429 : decode cL_law 429 = .ok (.iadd, 1) := by decide +kernel
theorem dL_law_430 : decode cL_law 430 = .ok (.iaload, 1) := by decide +kernel
theorem dL_law_431 : decode cL_law 431 = .ok (.invokevirtual 53, 3) := by decide +kernel
theorem dL_law_434 : decode cL_law 434 = .ok (.if_icmp .eq 561, 3) := by decide +kernel
theorem dL_law_437 : decode cL_law 437 = .ok (.iconst 0, 1) := by decide +kernel
theorem dL_law_438 : decode cL_law 438 = .ok (.ireturn, 1) := by decide +kernel
theorem dL_law_439 : decode cL_law 439 = .ok (.aload_n 1, 1) := by decide +kernel
theorem dL_law_440 : decode cL_law 440 = .ok (.aload_n 0, 1) := by decide +kernel
theorem dL_law_441 : decode cL_law 441 = .ok (.iload_n 3, 1) := by decide +kernel
theorem dL_law_442 : decode cL_law 442 = .ok (.iconst 1, 1) := by decide +kernel
theorem dL_law_443 : decode cL_law 443 = .ok (.iadd, 1) := by decide +kernel
theorem dL_law_444 : decode cL_law 444 = .ok (.iaload, 1) := by decide +kernel
theorem dL_law_445 : decode cL_law 445 = .ok (.aload_n 0, 1) := by decide +kernel
theorem dL_law_446 : decode cL_law 446 = .ok (.iload_n 3, 1) := by decide +kernel
theorem dL_law_447 : decode cL_law 447 = .ok (.iconst 2, 1) := by decide +kernel
theorem dL_law_448 : decode cL_law 448 = .ok (.iadd, 1) := by decide +kernel
theorem dL_law_449 : decode cL_law 449 = .ok (.iaload, 1) := by decide +kernel
theorem dL_law_450 : decode cL_law 450 = .ok (.invokevirtual 54, 3) := by decide +kernel
theorem dL_law_453 : decode cL_law 453 = .ok (.aload_n 2, 1) := by decide +kernel
theorem dL_law_454 : decode cL_law 454 = .ok (.aload_n 0, 1) := by decide +kernel
theorem dL_law_455 : decode cL_law 455 = .ok (.iload_n 3, 1) := by decide +kernel
theorem dL_law_456 : decode cL_law 456 = .ok (.iconst 1, 1) := by decide +kernel
theorem dL_law_457 : decode cL_law 457 = .ok (.iadd, 1) := by decide +kernel
theorem dL_law_458 : decode cL_law 458 = .ok (.iaload, 1) := by decide +kernel
theorem dL_law_459 : decode cL_law 459 = .ok (.aload_n 0, 1) := by decide +kernel
theorem dL_law_460 : decode cL_law 460 = .ok (.iload_n 3, 1) := by decide +kernel
theorem dL_law_461 : decode cL_law 461 = .ok (.iconst 2, 1) := by decide +kernel
theorem dL_law_462 : decode cL_law 462 = .ok (.iadd, 1) := by decide +kernel
theorem dL_law_463 : decode cL_law 463 = .ok (.iaload, 1) := by decide +kernel
theorem dL_law_464 : decode cL_law 464 = .ok (.invokevirtual 57, 3) := by decide +kernel
theorem dL_law_467 : decode cL_law 467 = .ok (.if_icmp .eq 528, 3) := by decide +kernel
theorem dL_law_470 : decode cL_law 470 = .ok (.iconst 0, 1) := by decide +kernel
theorem dL_law_471 : decode cL_law 471 = .ok (.ireturn, 1) := by decide +kernel
theorem dL_law_472 : decode cL_law 472 = .ok (.aload_n 1, 1) := by decide +kernel
theorem dL_law_473 : decode cL_law 473 = .ok (.invokevirtual 58, 3) := by decide +kernel
theorem dL_law_476 : decode cL_law 476 = .ok (.aload_n 2, 1) := by decide +kernel
theorem dL_law_477 : decode cL_law 477 = .ok (.invokevirtual 61, 3) := by decide +kernel
theorem dL_law_480 : decode cL_law 480 = .ok (.if_icmp .eq 515, 3) := by decide +kernel
theorem dL_law_483 : decode cL_law 483 = .ok (.iconst 0, 1) := by decide +kernel
theorem dL_law_484 : decode cL_law 484 = .ok (.ireturn, 1) := by decide +kernel
theorem dL_law_485 : decode cL_law 485 = .ok (.aload_n 1, 1) := by decide +kernel
theorem dL_law_486 : decode cL_law 486 = .ok (.invokevirtual 62, 3) := by decide +kernel
theorem dL_law_489 : decode cL_law 489 = .ok (.aload_n 2, 1) := by decide +kernel
theorem dL_law_490 : decode cL_law 490 = .ok (.invokevirtual 65, 3) := by decide +kernel
theorem dL_law_493 : decode cL_law 493 = .ok (.if_icmp .eq 502, 3) := by decide +kernel
theorem dL_law_496 : decode cL_law 496 = .ok (.iconst 0, 1) := by decide +kernel
theorem dL_law_497 : decode cL_law 497 = .ok (.ireturn, 1) := by decide +kernel
theorem dL_law_498 : decode cL_law 498 = .ok (.aload_n 1, 1) := by decide +kernel
theorem dL_law_499 : decode cL_law 499 = .ok (.aload_n 0, 1) := by decide +kernel
theorem dL_law_500 : decode cL_law 500 = .ok (.iload_n 3, 1) := by decide +kernel
theorem dL_law_501 : decode cL_law 501 = .ok (.iconst 1, 1) := by decide +kernel
theorem dL_law_502 : decode cL_law 502 = .ok (.iadd, 1) := by decide +kernel
theorem dL_law_503 : decode cL_law 503 = .ok (.iaload, 1) := by decide +kernel
theorem dL_law_504 : decode cL_law 504 = .ok (.invokevirtual 66, 3) := by decide +kernel
theorem dL_law_507 : decode cL_law 507 = .ok (.aload_n 2, 1) := by decide +kernel
theorem dL_law_508 : decode cL_law 508 = .ok (.aload_n 0, 1) := by decide +kernel
theorem dL_law_509 : decode cL_law 509 = .ok (.iload_n 3, 1) := by decide +kernel
theorem dL_law_510 : decode cL_law 510 = .ok (.iconst 1, 1) := by decide +kernel
theorem dL_law_511 : decode cL_law 511 = .ok (.iadd, 1) := by decide +kernel
theorem dL_law_512 : decode cL_law 512 = .ok (.iaload, 1) := by decide +kernel
theorem dL_law_513 : decode cL_law 513 = .ok (.invokevirtual 69, 3) := by decide +kernel
theorem dL_law_516 : decode cL_law 516 = .ok (.if_icmp .eq 479, 3) := by decide +kernel
theorem dL_law_519 : decode cL_law 519 = .ok (.iconst 0, 1) := by decide +kernel
theorem dL_law_520 : decode cL_law 520 = .ok (.ireturn, 1) := by decide +kernel
theorem dL_law_521 : decode cL_law 521 = .ok (.aload_n 1, 1) := by decide +kernel
theorem dL_law_522 : decode cL_law 522 = .ok (.aload_n 0, 1) := by decide +kernel
theorem dL_law_523 : decode cL_law 523 = .ok (.iload_n 3, 1) := by decide +kernel
theorem dL_law_524 : decode cL_law 524 = .ok (.iconst 1, 1) := by decide +kernel
theorem dL_law_525 : decode cL_law 525 = .ok (.iadd, 1) := by decide +kernel
theorem dL_law_526 : decode cL_law 526 = .ok (.iaload, 1) := by decide +kernel
theorem dL_law_527 : decode cL_law 527 = .ok (.aload_n 0, 1) := by decide +kernel
theorem dL_law_528 : decode cL_law 528 = .ok (.iload_n 3, 1) := by decide +kernel
theorem dL_law_529 : decode cL_law 529 = .ok (.iconst 2, 1) := by decide +kernel
theorem dL_law_530 : decode cL_law 530 = .ok (.iadd, 1) := by decide +kernel
theorem dL_law_531 : decode cL_law 531 = .ok (.iaload, 1) := by decide +kernel
theorem dL_law_532 : decode cL_law 532 = .ok (.invokevirtual 70, 3) := by decide +kernel
theorem dL_law_535 : decode cL_law 535 = .ok (.aload_n 2, 1) := by decide +kernel
theorem dL_law_536 : decode cL_law 536 = .ok (.aload_n 0, 1) := by decide +kernel
theorem dL_law_537 : decode cL_law 537 = .ok (.iload_n 3, 1) := by decide +kernel
theorem dL_law_538 : decode cL_law 538 = .ok (.iconst 1, 1) := by decide +kernel
theorem dL_law_539 : decode cL_law 539 = .ok (.iadd, 1) := by decide +kernel
theorem dL_law_540 : decode cL_law 540 = .ok (.iaload, 1) := by decide +kernel
theorem dL_law_541 : decode cL_law 541 = .ok (.aload_n 0, 1) := by decide +kernel
theorem dL_law_542 : decode cL_law 542 = .ok (.iload_n 3, 1) := by decide +kernel
theorem dL_law_543 : decode cL_law 543 = .ok (.iconst 2, 1) := by decide +kernel
theorem dL_law_544 : decode cL_law 544 = .ok (.iadd, 1) := by decide +kernel
theorem dL_law_545 : decode cL_law 545 = .ok (.iaload, 1) := by decide +kernel
theorem dL_law_546 : decode cL_law 546 = .ok (.invokevirtual 73, 3) := by decide +kernel
theorem dL_law_549 : decode cL_law 549 = .ok (.if_icmp .eq 446, 3) := by decide +kernel
theorem dL_law_552 : decode cL_law 552 = .ok (.iconst 0, 1) := by decide +kernel
theorem dL_law_553 : decode cL_law 553 = .ok (.ireturn, 1) := by decide +kernel
theorem dL_law_554 : decode cL_law 554 = .ok (.aload_n 1, 1) := by decide +kernel
theorem dL_law_555 : decode cL_law 555 = .ok (.aload_n 0, 1) := by decide +kernel
theorem dL_law_556 : decode cL_law 556 = .ok (.iload_n 3, 1) := by decide +kernel
theorem dL_law_557 : decode cL_law 557 = .ok (.iconst 1, 1) := by decide +kernel
theorem dL_law_558 : decode cL_law 558 = .ok (.iadd, 1) := by decide +kernel
theorem dL_law_559 : decode cL_law 559 = .ok (.iaload, 1) := by decide +kernel
theorem dL_law_560 : decode cL_law 560 = .ok (.aload_n 0, 1) := by decide +kernel
theorem dL_law_561 : decode cL_law 561 = .ok (.iload_n 3, 1) := by decide +kernel
theorem dL_law_562 : decode cL_law 562 = .ok (.iconst 2, 1) := by decide +kernel
theorem dL_law_563 : decode cL_law 563 = .ok (.iadd, 1) := by decide +kernel
theorem dL_law_564 : decode cL_law 564 = .ok (.iaload, 1) := by decide +kernel
theorem dL_law_565 : decode cL_law 565 = .ok (.aload_n 0, 1) := by decide +kernel
theorem dL_law_566 : decode cL_law 566 = .ok (.iload_n 3, 1) := by decide +kernel
theorem dL_law_567 : decode cL_law 567 = .ok (.iconst 3, 1) := by decide +kernel
theorem dL_law_568 : decode cL_law 568 = .ok (.iadd, 1) := by decide +kernel
theorem dL_law_569 : decode cL_law 569 = .ok (.iaload, 1) := by decide +kernel
theorem dL_law_570 : decode cL_law 570 = .ok (.invokevirtual 74, 3) := by decide +kernel
theorem dL_law_573 : decode cL_law 573 = .ok (.aload_n 2, 1) := by decide +kernel
theorem dL_law_574 : decode cL_law 574 = .ok (.aload_n 0, 1) := by decide +kernel
theorem dL_law_575 : decode cL_law 575 = .ok (.iload_n 3, 1) := by decide +kernel
theorem dL_law_576 : decode cL_law 576 = .ok (.iconst 1, 1) := by decide +kernel
theorem dL_law_577 : decode cL_law 577 = .ok (.iadd, 1) := by decide +kernel
theorem dL_law_578 : decode cL_law 578 = .ok (.iaload, 1) := by decide +kernel
theorem dL_law_579 : decode cL_law 579 = .ok (.aload_n 0, 1) := by decide +kernel
theorem dL_law_580 : decode cL_law 580 = .ok (.iload_n 3, 1) := by decide +kernel
theorem dL_law_581 : decode cL_law 581 = .ok (.iconst 2, 1) := by decide +kernel
theorem dL_law_582 : decode cL_law 582 = .ok (.iadd, 1) := by decide +kernel
theorem dL_law_583 : decode cL_law 583 = .ok (.iaload, 1) := by decide +kernel
theorem dL_law_584 : decode cL_law 584 = .ok (.aload_n 0, 1) := by decide +kernel
theorem dL_law_585 : decode cL_law 585 = .ok (.iload_n 3, 1) := by decide +kernel
theorem dL_law_586 : decode cL_law 586 = .ok (.iconst 3, 1) := by decide +kernel
theorem dL_law_587 : decode cL_law 587 = .ok (.iadd, 1) := by decide +kernel
theorem dL_law_588 : decode cL_law 588 = .ok (.iaload, 1) := by decide +kernel
theorem dL_law_589 : decode cL_law 589 = .ok (.invokevirtual 77, 3) := by decide +kernel
theorem dL_law_592 : decode cL_law 592 = .ok (.if_icmp .eq 403, 3) := by decide +kernel
theorem dL_law_595 : decode cL_law 595 = .ok (.iconst 0, 1) := by decide +kernel
theorem dL_law_596 : decode cL_law 596 = .ok (.ireturn, 1) := by decide +kernel
theorem dL_law_597 : decode cL_law 597 = .ok (.aload_n 1, 1) := by decide +kernel
theorem dL_law_598 : decode cL_law 598 = .ok (.aload_n 0, 1) := by decide +kernel
theorem dL_law_599 : decode cL_law 599 = .ok (.iload_n 3, 1) := by decide +kernel
theorem dL_law_600 : decode cL_law 600 = .ok (.iconst 1, 1) := by decide +kernel
theorem dL_law_601 : decode cL_law 601 = .ok (.iadd, 1) := by decide +kernel
theorem dL_law_602 : decode cL_law 602 = .ok (.iaload, 1) := by decide +kernel
theorem dL_law_603 : decode cL_law 603 = .ok (.invokevirtual 78, 3) := by decide +kernel
theorem dL_law_606 : decode cL_law 606 = .ok (.aload_n 2, 1) := by decide +kernel
theorem dL_law_607 : decode cL_law 607 = .ok (.aload_n 0, 1) := by decide +kernel
theorem dL_law_608 : decode cL_law 608 = .ok (.iload_n 3, 1) := by decide +kernel
theorem dL_law_609 : decode cL_law 609 = .ok (.iconst 1, 1) := by decide +kernel
theorem dL_law_610 : decode cL_law 610 = .ok (.iadd, 1) := by decide +kernel
theorem dL_law_611 : decode cL_law 611 = .ok (.iaload, 1) := by decide +kernel
theorem dL_law_612 : decode cL_law 612 = .ok (.invokevirtual 81, 3) := by decide +kernel
theorem dL_law_615 : decode cL_law 615 = .ok (.if_icmp .eq 380, 3) := by decide +kernel
theorem dL_law_618 : decode cL_law 618 = .ok (.iconst 0, 1) := by decide +kernel
theorem dL_law_619 : decode cL_law 619 = .ok (.ireturn, 1) := by decide +kernel
theorem dL_law_620 : decode cL_law 620 = .ok (.aload_n 1, 1) := by decide +kernel
theorem dL_law_621 : decode cL_law 621 = .ok (.aload_n 0, 1) := by decide +kernel
theorem dL_law_622 : decode cL_law 622 = .ok (.iload_n 3, 1) := by decide +kernel
theorem dL_law_623 : decode cL_law 623 = .ok (.iconst 1, 1) := by decide +kernel
theorem dL_law_624 : decode cL_law 624 = .ok (.iadd, 1) := by decide +kernel
theorem dL_law_625 : decode cL_law 625 = .ok (.iaload, 1) := by decide +kernel
theorem dL_law_626 : decode cL_law 626 = .ok (.aload_n 0, 1) := by decide +kernel
theorem dL_law_627 : decode cL_law 627 = .ok (.iload_n 3, 1) := by decide +kernel
theorem dL_law_628 : decode cL_law 628 = .ok (.iconst 2, 1) := by decide +kernel
theorem dL_law_629 : decode cL_law 629 = .ok (.iadd, 1) := by decide +kernel
theorem dL_law_630 : decode cL_law 630 = .ok (.iaload, 1) := by decide +kernel
theorem dL_law_631 : decode cL_law 631 = .ok (.invokevirtual 82, 3) := by decide +kernel
theorem dL_law_634 : decode cL_law 634 = .ok (.aload_n 2, 1) := by decide +kernel
theorem dL_law_635 : decode cL_law 635 = .ok (.aload_n 0, 1) := by decide +kernel
theorem dL_law_636 : decode cL_law 636 = .ok (.iload_n 3, 1) := by decide +kernel
theorem dL_law_637 : decode cL_law 637 = .ok (.iconst 1, 1) := by decide +kernel
theorem dL_law_638 : decode cL_law 638 = .ok (.iadd, 1) := by decide +kernel
theorem dL_law_639 : decode cL_law 639 = .ok (.iaload, 1) := by decide +kernel
theorem dL_law_640 : decode cL_law 640 = .ok (.aload_n 0, 1) := by decide +kernel
theorem dL_law_641 : decode cL_law 641 = .ok (.iload_n 3, 1) := by decide +kernel
theorem dL_law_642 : decode cL_law 642 = .ok (.iconst 2, 1) := by decide +kernel
theorem dL_law_643 : decode cL_law 643 = .ok (.iadd, 1) := by decide +kernel
theorem dL_law_644 : decode cL_law 644 = .ok (.iaload, 1) := by decide +kernel
theorem dL_law_645 : decode cL_law 645 = .ok (.invokevirtual 85, 3) := by decide +kernel
theorem dL_law_648 : decode cL_law 648 = .ok (.if_icmp .eq 347, 3) := by decide +kernel
theorem dL_law_651 : decode cL_law 651 = .ok (.iconst 0, 1) := by decide +kernel
theorem dL_law_652 : decode cL_law 652 = .ok (.ireturn, 1) := by decide +kernel
theorem dL_law_653 : decode cL_law 653 = .ok (.aload_n 1, 1) := by decide +kernel
theorem dL_law_654 : decode cL_law 654 = .ok (.aload_n 0, 1) := by decide +kernel
theorem dL_law_655 : decode cL_law 655 = .ok (.iload_n 3, 1) := by decide +kernel
theorem dL_law_656 : decode cL_law 656 = .ok (.iconst 1, 1) := by decide +kernel
theorem dL_law_657 : decode cL_law 657 = .ok (.iadd, 1) := by decide +kernel
theorem dL_law_658 : decode cL_law 658 = .ok (.iaload, 1) := by decide +kernel
theorem dL_law_659 : decode cL_law 659 = .ok (.aload_n 0, 1) := by decide +kernel
theorem dL_law_660 : decode cL_law 660 = .ok (.iload_n 3, 1) := by decide +kernel
theorem dL_law_661 : decode cL_law 661 = .ok (.iconst 2, 1) := by decide +kernel
theorem dL_law_662 : decode cL_law 662 = .ok (.iadd, 1) := by decide +kernel
theorem dL_law_663 : decode cL_law 663 = .ok (.iaload, 1) := by decide +kernel
theorem dL_law_664 : decode cL_law 664 = .ok (.invokevirtual 86, 3) := by decide +kernel
theorem dL_law_667 : decode cL_law 667 = .ok (.aload_n 2, 1) := by decide +kernel
theorem dL_law_668 : decode cL_law 668 = .ok (.aload_n 0, 1) := by decide +kernel
theorem dL_law_669 : decode cL_law 669 = .ok (.iload_n 3, 1) := by decide +kernel
theorem dL_law_670 : decode cL_law 670 = .ok (.iconst 1, 1) := by decide +kernel
theorem dL_law_671 : decode cL_law 671 = .ok (.iadd, 1) := by decide +kernel
theorem dL_law_672 : decode cL_law 672 = .ok (.iaload, 1) := by decide +kernel
theorem dL_law_673 : decode cL_law 673 = .ok (.aload_n 0, 1) := by decide +kernel
theorem dL_law_674 : decode cL_law 674 = .ok (.iload_n 3, 1) := by decide +kernel
theorem dL_law_675 : decode cL_law 675 = .ok (.iconst 2, 1) := by decide +kernel
theorem dL_law_676 : decode cL_law 676 = .ok (.iadd, 1) := by decide +kernel
theorem dL_law_677 : decode cL_law 677 = .ok (.iaload, 1) := by decide +kernel
theorem dL_law_678 : decode cL_law 678 = .ok (.invokevirtual 89, 3) := by decide +kernel
theorem dL_law_681 : decode cL_law 681 = .ok (.if_icmp .eq 314, 3) := by decide +kernel
theorem dL_law_684 : decode cL_law 684 = .ok (.iconst 0, 1) := by decide +kernel
theorem dL_law_685 : decode cL_law 685 = .ok (.ireturn, 1) := by decide +kernel
theorem dL_law_686 : decode cL_law 686 = .ok (.aload_n 1, 1) := by decide +kernel
theorem dL_law_687 : decode cL_law 687 = .ok (.aload_n 0, 1) := by decide +kernel
theorem dL_law_688 : decode cL_law 688 = .ok (.iload_n 3, 1) := by decide +kernel
theorem dL_law_689 : decode cL_law 689 = .ok (.iconst 1, 1) := by decide +kernel
theorem dL_law_690 : decode cL_law 690 = .ok (.iadd, 1) := by decide +kernel
theorem dL_law_691 : decode cL_law 691 = .ok (.iaload, 1) := by decide +kernel
theorem dL_law_692 : decode cL_law 692 = .ok (.aload_n 0, 1) := by decide +kernel
theorem dL_law_693 : decode cL_law 693 = .ok (.iload_n 3, 1) := by decide +kernel
theorem dL_law_694 : decode cL_law 694 = .ok (.iconst 2, 1) := by decide +kernel
theorem dL_law_695 : decode cL_law 695 = .ok (.iadd, 1) := by decide +kernel
theorem dL_law_696 : decode cL_law 696 = .ok (.iaload, 1) := by decide +kernel
theorem dL_law_697 : decode cL_law 697 = .ok (.invokevirtual 90, 3) := by decide +kernel
theorem dL_law_700 : decode cL_law 700 = .ok (.aload_n 2, 1) := by decide +kernel
theorem dL_law_701 : decode cL_law 701 = .ok (.aload_n 0, 1) := by decide +kernel
theorem dL_law_702 : decode cL_law 702 = .ok (.iload_n 3, 1) := by decide +kernel
theorem dL_law_703 : decode cL_law 703 = .ok (.iconst 1, 1) := by decide +kernel
theorem dL_law_704 : decode cL_law 704 = .ok (.iadd, 1) := by decide +kernel
theorem dL_law_705 : decode cL_law 705 = .ok (.iaload, 1) := by decide +kernel
theorem dL_law_706 : decode cL_law 706 = .ok (.aload_n 0, 1) := by decide +kernel
theorem dL_law_707 : decode cL_law 707 = .ok (.iload_n 3, 1) := by decide +kernel
theorem dL_law_708 : decode cL_law 708 = .ok (.iconst 2, 1) := by decide +kernel
theorem dL_law_709 : decode cL_law 709 = .ok (.iadd, 1) := by decide +kernel
theorem dL_law_710 : decode cL_law 710 = .ok (.iaload, 1) := by decide +kernel
theorem dL_law_711 : decode cL_law 711 = .ok (.invokevirtual 93, 3) := by decide +kernel
theorem dL_law_714 : decode cL_law 714 = .ok (.if_icmp .eq 281, 3) := by decide +kernel
theorem dL_law_717 : decode cL_law 717 = .ok (.iconst 0, 1) := by decide +kernel
theorem dL_law_718 : decode cL_law 718 = .ok (.ireturn, 1) := by decide +kernel
theorem dL_law_719 : decode cL_law 719 = .ok (.aload_n 1, 1) := by decide +kernel
theorem dL_law_720 : decode cL_law 720 = .ok (.invokevirtual 94, 3) := by decide +kernel
theorem dL_law_723 : decode cL_law 723 = .ok (.aload_n 2, 1) := by decide +kernel
theorem dL_law_724 : decode cL_law 724 = .ok (.invokevirtual 97, 3) := by decide +kernel
theorem dL_law_727 : decode cL_law 727 = .ok (.if_icmp .eq 268, 3) := by decide +kernel
theorem dL_law_730 : decode cL_law 730 = .ok (.iconst 0, 1) := by decide +kernel
theorem dL_law_731 : decode cL_law 731 = .ok (.ireturn, 1) := by decide +kernel
theorem dL_law_732 : decode cL_law 732 = .ok (.aload_n 1, 1) := by decide +kernel
theorem dL_law_733 : decode cL_law 733 = .ok (.invokevirtual 98, 3) := by decide +kernel
theorem dL_law_736 : decode cL_law 736 = .ok (.aload_n 2, 1) := by decide +kernel
theorem dL_law_737 : decode cL_law 737 = .ok (.invokevirtual 101, 3) := by decide +kernel
theorem dL_law_740 : decode cL_law 740 = .ok (.if_icmp .eq 255, 3) := by decide +kernel
theorem dL_law_743 : decode cL_law 743 = .ok (.iconst 0, 1) := by decide +kernel
theorem dL_law_744 : decode cL_law 744 = .ok (.ireturn, 1) := by decide +kernel
theorem dL_law_745 : decode cL_law 745 = .ok (.aload_n 1, 1) := by decide +kernel
theorem dL_law_746 : decode cL_law 746 = .ok (.aload_n 0, 1) := by decide +kernel
theorem dL_law_747 : decode cL_law 747 = .ok (.iload_n 3, 1) := by decide +kernel
theorem dL_law_748 : decode cL_law 748 = .ok (.iconst 1, 1) := by decide +kernel
theorem dL_law_749 : decode cL_law 749 = .ok (.iadd, 1) := by decide +kernel
theorem dL_law_750 : decode cL_law 750 = .ok (.iaload, 1) := by decide +kernel
theorem dL_law_751 : decode cL_law 751 = .ok (.aload_n 0, 1) := by decide +kernel
theorem dL_law_752 : decode cL_law 752 = .ok (.iload_n 3, 1) := by decide +kernel
theorem dL_law_753 : decode cL_law 753 = .ok (.iconst 2, 1) := by decide +kernel
theorem dL_law_754 : decode cL_law 754 = .ok (.iadd, 1) := by decide +kernel
theorem dL_law_755 : decode cL_law 755 = .ok (.iaload, 1) := by decide +kernel
theorem dL_law_756 : decode cL_law 756 = .ok (.invokevirtual 102, 3) := by decide +kernel
theorem dL_law_759 : decode cL_law 759 = .ok (.aload_n 2, 1) := by decide +kernel
theorem dL_law_760 : decode cL_law 760 = .ok (.aload_n 0, 1) := by decide +kernel
theorem dL_law_761 : decode cL_law 761 = .ok (.iload_n 3, 1) := by decide +kernel
theorem dL_law_762 : decode cL_law 762 = .ok (.iconst 1, 1) := by decide +kernel
theorem dL_law_763 : decode cL_law 763 = .ok (.iadd, 1) := by decide +kernel
theorem dL_law_764 : decode cL_law 764 = .ok (.iaload, 1) := by decide +kernel
theorem dL_law_765 : decode cL_law 765 = .ok (.aload_n 0, 1) := by decide +kernel
theorem dL_law_766 : decode cL_law 766 = .ok (.iload_n 3, 1) := by decide +kernel
theorem dL_law_767 : decode cL_law 767 = .ok (.iconst 2, 1) := by decide +kernel
theorem dL_law_768 : decode cL_law 768 = .ok (.iadd, 1) := by decide +kernel
theorem dL_law_769 : decode cL_law 769 = .ok (.iaload, 1) := by decide +kernel
theorem dL_law_770 : decode cL_law 770 = .ok (.invokevirtual 105, 3) := by decide +kernel
theorem dL_law_773 : decode cL_law 773 = .ok (.if_icmp .eq 222, 3) := by decide +kernel
theorem dL_law_776 : decode cL_law 776 = .ok (.iconst 0, 1) := by decide +kernel
theorem dL_law_777 : decode cL_law 777 = .ok (.ireturn, 1) := by decide +kernel
theorem dL_law_778 : decode cL_law 778 = .ok (.aload_n 1, 1) := by decide +kernel
theorem dL_law_779 : decode cL_law 779 = .ok (.aload_n 0, 1) := by decide +kernel
theorem dL_law_780 : decode cL_law 780 = .ok (.iload_n 3, 1) := by decide +kernel
theorem dL_law_781 : decode cL_law 781 = .ok (.iconst 1, 1) := by decide +kernel
theorem dL_law_782 : decode cL_law 782 = .ok (.iadd, 1) := by decide +kernel
theorem dL_law_783 : decode cL_law 783 = .ok (.iaload, 1) := by decide +kernel
theorem dL_law_784 : decode cL_law 784 = .ok (.invokevirtual 106, 3) := by decide +kernel
theorem dL_law_787 : decode cL_law 787 = .ok (.aload_n 2, 1) := by decide +kernel
theorem dL_law_788 : decode cL_law 788 = .ok (.aload_n 0, 1) := by decide +kernel
theorem dL_law_789 : decode cL_law 789 = .ok (.iload_n 3, 1) := by decide +kernel
theorem dL_law_790 : decode cL_law 790 = .ok (.iconst 1, 1) := by decide +kernel
theorem dL_law_791 : decode cL_law 791 = .ok (.iadd, 1) := by decide +kernel
theorem dL_law_792 : decode cL_law 792 = .ok (.iaload, 1) := by decide +kernel
theorem dL_law_793 : decode cL_law 793 = .ok (.invokevirtual 109, 3) := by decide +kernel
theorem dL_law_796 : decode cL_law 796 = .ok (.if_icmp .eq 199, 3) := by decide +kernel
theorem dL_law_799 : decode cL_law 799 = .ok (.iconst 0, 1) := by decide +kernel
theorem dL_law_800 : decode cL_law 800 = .ok (.ireturn, 1) := by decide +kernel
theorem dL_law_801 : decode cL_law 801 = .ok (.aload_n 1, 1) := by decide +kernel
theorem dL_law_802 : decode cL_law 802 = .ok (.aload_n 0, 1) := by decide +kernel
theorem dL_law_803 : decode cL_law 803 = .ok (.iload_n 3, 1) := by decide +kernel
theorem dL_law_804 : decode cL_law 804 = .ok (.iconst 1, 1) := by decide +kernel
theorem dL_law_805 : decode cL_law 805 = .ok (.iadd, 1) := by decide +kernel
theorem dL_law_806 : decode cL_law 806 = .ok (.iaload, 1) := by decide +kernel
theorem dL_law_807 : decode cL_law 807 = .ok (.invokevirtual 110, 3) := by decide +kernel
theorem dL_law_810 : decode cL_law 810 = .ok (.aload_n 2, 1) := by decide +kernel
theorem dL_law_811 : decode cL_law 811 = .ok (.aload_n 0, 1) := by decide +kernel
theorem dL_law_812 : decode cL_law 812 = .ok (.iload_n 3, 1) := by decide +kernel
theorem dL_law_813 : decode cL_law 813 = .ok (.iconst 1, 1) := by decide +kernel
theorem dL_law_814 : decode cL_law 814 = .ok (.iadd, 1) := by decide +kernel
theorem dL_law_815 : decode cL_law 815 = .ok (.iaload, 1) := by decide +kernel
theorem dL_law_816 : decode cL_law 816 = .ok (.invokevirtual 113, 3) := by decide +kernel
theorem dL_law_819 : decode cL_law 819 = .ok (.if_icmp .eq 176, 3) := by decide +kernel
theorem dL_law_822 : decode cL_law 822 = .ok (.iconst 0, 1) := by decide +kernel
theorem dL_law_823 : decode cL_law 823 = .ok (.ireturn, 1) := by decide +kernel
theorem dL_law_824 : decode cL_law 824 = .ok (.aload_n 1, 1) := by decide +kernel
theorem dL_law_825 : decode cL_law 825 = .ok (.aload_n 0, 1) := by decide +kernel
theorem dL_law_826 : decode cL_law 826 = .ok (.iload_n 3, 1) := by decide +kernel
theorem dL_law_827 : decode cL_law 827 = .ok (.iconst 1, 1) := by decide +kernel
theorem dL_law_828 : decode cL_law 828 = .ok (.iadd, 1) := by decide +kernel
theorem dL_law_829 : decode cL_law 829 = .ok (.iaload, 1) := by decide +kernel
theorem dL_law_830 : decode cL_law 830 = .ok (.aload_n 0, 1) := by decide +kernel
theorem dL_law_831 : decode cL_law 831 = .ok (.iload_n 3, 1) := by decide +kernel
theorem dL_law_832 : decode cL_law 832 = .ok (.iconst 2, 1) := by decide +kernel
theorem dL_law_833 : decode cL_law 833 = .ok (.iadd, 1) := by decide +kernel
theorem dL_law_834 : decode cL_law 834 = .ok (.iaload, 1) := by decide +kernel
theorem dL_law_835 : decode cL_law 835 = .ok (.invokevirtual 114, 3) := by decide +kernel
theorem dL_law_838 : decode cL_law 838 = .ok (.aload_n 2, 1) := by decide +kernel
theorem dL_law_839 : decode cL_law 839 = .ok (.aload_n 0, 1) := by decide +kernel
theorem dL_law_840 : decode cL_law 840 = .ok (.iload_n 3, 1) := by decide +kernel
theorem dL_law_841 : decode cL_law 841 = .ok (.iconst 1, 1) := by decide +kernel
theorem dL_law_842 : decode cL_law 842 = .ok (.iadd, 1) := by decide +kernel
theorem dL_law_843 : decode cL_law 843 = .ok (.iaload, 1) := by decide +kernel
theorem dL_law_844 : decode cL_law 844 = .ok (.aload_n 0, 1) := by decide +kernel
theorem dL_law_845 : decode cL_law 845 = .ok (.iload_n 3, 1) := by decide +kernel
theorem dL_law_846 : decode cL_law 846 = .ok (.iconst 2, 1) := by decide +kernel
theorem dL_law_847 : decode cL_law 847 = .ok (.iadd, 1) := by decide +kernel
theorem dL_law_848 : decode cL_law 848 = .ok (.iaload, 1) := by decide +kernel
theorem dL_law_849 : decode cL_law 849 = .ok (.invokevirtual 117, 3) := by decide +kernel
theorem dL_law_852 : decode cL_law 852 = .ok (.if_icmp .eq 143, 3) := by decide +kernel
theorem dL_law_855 : decode cL_law 855 = .ok (.iconst 0, 1) := by decide +kernel
theorem dL_law_856 : decode cL_law 856 = .ok (.ireturn, 1) := by decide +kernel
theorem dL_law_857 : decode cL_law 857 = .ok (.aload_n 1, 1) := by decide +kernel
theorem dL_law_858 : decode cL_law 858 = .ok (.aload_n 0, 1) := by decide +kernel
theorem dL_law_859 : decode cL_law 859 = .ok (.iload_n 3, 1) := by decide +kernel
theorem dL_law_860 : decode cL_law 860 = .ok (.iconst 1, 1) := by decide +kernel
theorem dL_law_861 : decode cL_law 861 = .ok (.iadd, 1) := by decide +kernel
theorem dL_law_862 : decode cL_law 862 = .ok (.iaload, 1) := by decide +kernel
theorem dL_law_863 : decode cL_law 863 = .ok (.invokevirtual 118, 3) := by decide +kernel
theorem dL_law_866 : decode cL_law 866 = .ok (.aload_n 2, 1) := by decide +kernel
theorem dL_law_867 : decode cL_law 867 = .ok (.aload_n 0, 1) := by decide +kernel
theorem dL_law_868 : decode cL_law 868 = .ok (.iload_n 3, 1) := by decide +kernel
theorem dL_law_869 : decode cL_law 869 = .ok (.iconst 1, 1) := by decide +kernel
theorem dL_law_870 : decode cL_law 870 = .ok (.iadd, 1) := by decide +kernel
theorem dL_law_871 : decode cL_law 871 = .ok (.iaload, 1) := by decide +kernel
theorem dL_law_872 : decode cL_law 872 = .ok (.invokevirtual 121, 3) := by decide +kernel
theorem dL_law_875 : decode cL_law 875 = .ok (.if_icmp .eq 120, 3) := by decide +kernel
theorem dL_law_878 : decode cL_law 878 = .ok (.iconst 0, 1) := by decide +kernel
theorem dL_law_879 : decode cL_law 879 = .ok (.ireturn, 1) := by decide +kernel
theorem dL_law_880 : decode cL_law 880 = .ok (.aload_n 1, 1) := by decide +kernel
theorem dL_law_881 : decode cL_law 881 = .ok (.aload_n 0, 1) := by decide +kernel
theorem dL_law_882 : decode cL_law 882 = .ok (.iload_n 3, 1) := by decide +kernel
theorem dL_law_883 : decode cL_law 883 = .ok (.iconst 1, 1) := by decide +kernel
theorem dL_law_884 : decode cL_law 884 = .ok (.iadd, 1) := by decide +kernel
theorem dL_law_885 : decode cL_law 885 = .ok (.iaload, 1) := by decide +kernel
theorem dL_law_886 : decode cL_law 886 = .ok (.aload_n 0, 1) := by decide +kernel
theorem dL_law_887 : decode cL_law 887 = .ok (.iload_n 3, 1) := by decide +kernel
theorem dL_law_888 : decode cL_law 888 = .ok (.iconst 2, 1) := by decide +kernel
theorem dL_law_889 : decode cL_law 889 = .ok (.iadd, 1) := by decide +kernel
theorem dL_law_890 : decode cL_law 890 = .ok (.iaload, 1) := by decide +kernel
theorem dL_law_891 : decode cL_law 891 = .ok (.invokevirtual 122, 3) := by decide +kernel
theorem dL_law_894 : decode cL_law 894 = .ok (.aload_n 2, 1) := by decide +kernel
theorem dL_law_895 : decode cL_law 895 = .ok (.aload_n 0, 1) := by decide +kernel
theorem dL_law_896 : decode cL_law 896 = .ok (.iload_n 3, 1) := by decide +kernel
theorem dL_law_897 : decode cL_law 897 = .ok (.iconst 1, 1) := by decide +kernel
theorem dL_law_898 : decode cL_law 898 = .ok (.iadd, 1) := by decide +kernel
theorem dL_law_899 : decode cL_law 899 = .ok (.iaload, 1) := by decide +kernel
theorem dL_law_900 : decode cL_law 900 = .ok (.aload_n 0, 1) := by decide +kernel
theorem dL_law_901 : decode cL_law 901 = .ok (.iload_n 3, 1) := by decide +kernel
theorem dL_law_902 : decode cL_law 902 = .ok (.iconst 2, 1) := by decide +kernel
theorem dL_law_903 : decode cL_law 903 = .ok (.iadd, 1) := by decide +kernel
theorem dL_law_904 : decode cL_law 904 = .ok (.iaload, 1) := by decide +kernel
theorem dL_law_905 : decode cL_law 905 = .ok (.invokevirtual 125, 3) := by decide +kernel
theorem dL_law_908 : decode cL_law 908 = .ok (.if_icmp .eq 87, 3) := by decide +kernel
theorem dL_law_911 : decode cL_law 911 = .ok (.iconst 0, 1) := by decide +kernel
theorem dL_law_912 : decode cL_law 912 = .ok (.ireturn, 1) := by decide +kernel
theorem dL_law_913 : decode cL_law 913 = .ok (.aload_n 1, 1) := by decide +kernel
theorem dL_law_914 : decode cL_law 914 = .ok (.aload_n 0, 1) := by decide +kernel
theorem dL_law_915 : decode cL_law 915 = .ok (.iload_n 3, 1) := by decide +kernel
theorem dL_law_916 : decode cL_law 916 = .ok (.iconst 1, 1) := by decide +kernel
theorem dL_law_917 : decode cL_law 917 = .ok (.iadd, 1) := by decide +kernel
theorem dL_law_918 : decode cL_law 918 = .ok (.iaload, 1) := by decide +kernel
theorem dL_law_919 : decode cL_law 919 = .ok (.aload_n 0, 1) := by decide +kernel
theorem dL_law_920 : decode cL_law 920 = .ok (.iload_n 3, 1) := by decide +kernel
theorem dL_law_921 : decode cL_law 921 = .ok (.iconst 2, 1) := by decide +kernel
theorem dL_law_922 : decode cL_law 922 = .ok (.iadd, 1) := by decide +kernel
theorem dL_law_923 : decode cL_law 923 = .ok (.iaload, 1) := by decide +kernel
theorem dL_law_924 : decode cL_law 924 = .ok (.invokevirtual 126, 3) := by decide +kernel
theorem dL_law_927 : decode cL_law 927 = .ok (.aload_n 2, 1) := by decide +kernel
theorem dL_law_928 : decode cL_law 928 = .ok (.aload_n 0, 1) := by decide +kernel
theorem dL_law_929 : decode cL_law 929 = .ok (.iload_n 3, 1) := by decide +kernel
theorem dL_law_930 : decode cL_law 930 = .ok (.iconst 1, 1) := by decide +kernel
theorem dL_law_931 : decode cL_law 931 = .ok (.iadd, 1) := by decide +kernel
theorem dL_law_932 : decode cL_law 932 = .ok (.iaload, 1) := by decide +kernel
theorem dL_law_933 : decode cL_law 933 = .ok (.aload_n 0, 1) := by decide +kernel
theorem dL_law_934 : decode cL_law 934 = .ok (.iload_n 3, 1) := by decide +kernel
theorem dL_law_935 : decode cL_law 935 = .ok (.iconst 2, 1) := by decide +kernel
theorem dL_law_936 : decode cL_law 936 = .ok (.iadd, 1) := by decide +kernel
theorem dL_law_937 : decode cL_law 937 = .ok (.iaload, 1) := by decide +kernel
theorem dL_law_938 : decode cL_law 938 = .ok (.invokevirtual 129, 3) := by decide +kernel
theorem dL_law_941 : decode cL_law 941 = .ok (.if_icmp .eq 54, 3) := by decide +kernel
theorem dL_law_944 : decode cL_law 944 = .ok (.iconst 0, 1) := by decide +kernel
theorem dL_law_945 : decode cL_law 945 = .ok (.ireturn, 1) := by decide +kernel
theorem dL_law_946 : decode cL_law 946 = .ok (.aload_n 1, 1) := by decide +kernel
theorem dL_law_947 : decode cL_law 947 = .ok (.aload_n 0, 1) := by decide +kernel
theorem dL_law_948 : decode cL_law 948 = .ok (.iload_n 3, 1) := by decide +kernel
theorem dL_law_949 : decode cL_law 949 = .ok (.iconst 1, 1) := by decide +kernel
theorem dL_law_950 : decode cL_law 950 = .ok (.iadd, 1) := by decide +kernel
theorem dL_law_951 : decode cL_law 951 = .ok (.iaload, 1) := by decide +kernel
theorem dL_law_952 : decode cL_law 952 = .ok (.invokevirtual 130, 3) := by decide +kernel
theorem dL_law_955 : decode cL_law 955 = .ok (.aload_n 2, 1) := by decide +kernel
theorem dL_law_956 : decode cL_law 956 = .ok (.aload_n 0, 1) := by decide +kernel
theorem dL_law_957 : decode cL_law 957 = .ok (.iload_n 3, 1) := by decide +kernel
theorem dL_law_958 : decode cL_law 958 = .ok (.iconst 1, 1) := by decide +kernel
theorem dL_law_959 : decode cL_law 959 = .ok (.iadd, 1) := by decide +kernel
theorem dL_law_960 : decode cL_law 960 = .ok (.iaload, 1) := by decide +kernel
theorem dL_law_961 : decode cL_law 961 = .ok (.invokevirtual 133, 3) := by decide +kernel
theorem dL_law_964 : decode cL_law 964 = .ok (.if_icmp .eq 31, 3) := by decide +kernel
theorem dL_law_967 : decode cL_law 967 = .ok (.iconst 0, 1) := by decide +kernel
theorem dL_law_968 : decode cL_law 968 = .ok (.ireturn, 1) := by decide +kernel
theorem dL_law_969 : decode cL_law 969 = .ok (.aload_n 1, 1) := by decide +kernel
theorem dL_law_970 : decode cL_law 970 = .ok (.invokevirtual 134, 3) := by decide +kernel
theorem dL_law_973 : decode cL_law 973 = .ok (.aload_n 2, 1) := by decide +kernel
theorem dL_law_974 : decode cL_law 974 = .ok (.invokevirtual 137, 3) := by decide +kernel
theorem dL_law_977 : decode cL_law 977 = .ok (.if_icmp .eq 18, 3) := by decide +kernel
theorem dL_law_980 : decode cL_law 980 = .ok (.iconst 0, 1) := by decide +kernel
theorem dL_law_981 : decode cL_law 981 = .ok (.ireturn, 1) := by decide +kernel
theorem dL_law_982 : decode cL_law 982 = .ok (.aload_n 1, 1) := by decide +kernel
theorem dL_law_983 : decode cL_law 983 = .ok (.invokevirtual 138, 3) := by decide +kernel
theorem dL_law_986 : decode cL_law 986 = .ok (.aload_n 2, 1) := by decide +kernel
theorem dL_law_987 : decode cL_law 987 = .ok (.invokevirtual 141, 3) := by decide +kernel
theorem dL_law_990 : decode cL_law 990 = .ok (.if_icmp .eq 5, 3) := by decide +kernel
theorem dL_law_993 : decode cL_law 993 = .ok (.iconst 0, 1) := by decide +kernel
theorem dL_law_994 : decode cL_law 994 = .ok (.ireturn, 1) := by decide +kernel
theorem dL_law_995 : decode cL_law 995 = .ok (.iinc 3 5, 3) := by decide +kernel
theorem dL_law_998 : decode cL_law 998 = .ok (.goto (-980), 3) := by decide +kernel
theorem dL_law_1001 : decode cL_law 1001 = .ok (.iconst 1, 1) := by decide +kernel
theorem dL_law_1002 : decode cL_law 1002 = .ok (.ireturn, 1) := by decide +kernel
end
section
def tblG : List Cond := lw_tbl.filter goodWord
theorem tblG_good : ∀ w ∈ tblG, (w.onTables && w.keeps) = true ∨ ∃ ty, w = .arrayClass ty := fun _ hw => good_of_word (List.mem_filter.mp hw).2
theorem tblG_in {w : Cond} (i : Nat) (h : lw_tbl[i]? = some w) (hg : goodWord w = true) : w ∈ tblG := List.mem_filter.mpr ⟨List.mem_of_getElem? h, hg⟩
theorem tblG_goodIn {w : Cond} (h : w ∈ tblG) : GoodIn tblG (w :: tblG) := fun v hv => by
  rcases List.mem_cons.mp hv with e | e
  · subst e; exact ⟨h, tblG_good _ h⟩
  · exact ⟨e, tblG_good _ e⟩
abbrev St : Type := Nat → Nat → Int32
abbrev Gp : Type := va_G × (ClassId × ClassId × ClassId) × (Nat → Nat) × (Nat → Prop) × List Nat × (Nat × Nat × Nat) × (Nat → Nat) × (Nat → Nat)
def gD (G : Gp) : va_G := G.1
def gI (G : Gp) : ClassId := G.2.1.1
def gC (G : Gp) : ClassId := G.2.1.2.1
def gZ (G : Gp) : ClassId := G.2.1.2.2
def gh (G : Gp) : Nat → Nat := G.2.2.1
def gA (G : Gp) : Nat → Prop := G.2.2.2.1
def gks (G : Gp) : List Nat := G.2.2.2.2.1
def gt1 (G : Gp) : Nat := G.2.2.2.2.2.1.1
def gt2 (G : Gp) : Nat := G.2.2.2.2.2.1.2.1
def gt3 (G : Gp) : Nat := G.2.2.2.2.2.1.2.2
def gK (G : Gp) : Nat → Nat := G.2.2.2.2.2.2.1
def gV (G : Gp) : Nat → Nat := G.2.2.2.2.2.2.2
def gT (G : Gp) : List (ClassId × FieldType) := [(gI G, .int), (gC G, .char), (gZ G, .boolean)]
def selOf (v : Int32) : Nat := if v = 0 then 7 else 9
def cellF (G : Gp) (k : Nat) (f : Nat → Int32) : va_E := match k with
  | 0 => .inr (4, [.ref (gh G 1), .ref (gh G 3), .ref (gh G 5), .ref (gh G 11), .ref (gh G 14)])
  | 1 => .inr (1, [.ref (gh G 2), .int (f 1), .int (f 2)])
  | 2 => .inl (gI G, 25, .inl f)
  | 3 => .inr (1, [.ref (gh G 4), .int (f 1), .int (f 2)])
  | 4 => .inl (gI G, 25, .inl f)
  | 5 => .inr (2, [.ref (gh G 6), .ref (gh G 7), .ref (gh G 9), .ref (gh G (selOf (f 3))), .int (f 4), .int (f 5)])
  | 6 => .inl (gC G, 240, .inl f)
  | 7 => .inr (1, [.ref (gh G 8), .int (f 1), .int (f 2)])
  | 8 => .inl (gI G, 25, .inl f)
  | 9 => .inr (1, [.ref (gh G 10), .int (f 1), .int (f 2)])
  | 10 => .inl (gI G, 25, .inl f)
  | 11 => .inr (0, [.ref (gh G 12), .ref (gh G 13), .int (f 2)])
  | 12 => .inl (gI G, 4, .inl f)
  | 13 => .inl (gI G, 108, .inl f)
  | 14 => .inr (3, [.ref (gh G 15), .ref (gh G 16), .int (f 2)])
  | 15 => .inl (gI G, 256, .inl f)
  | 16 => .inl (gZ G, 256, .inl f)
  | 17 => .inr (5, [.int (f 0), .ref (gh G 18), .ref (gh G 19), .ref (gh G 20), .ref (gh G 21), .int (f 5), .ref (gh G 22), .ref (gh G 23), .int (f 8), .int (f 9), .ref (gh G 24)])
  | 18 => .inl (gI G, 240, .inl f)
  | 19 => .inl (gI G, 84, .inl f)
  | 20 => .inl (gI G, 84, .inl f)
  | 21 => .inl (gI G, 336, .inl f)
  | 22 => .inl (gI G, 1024, .inl f)
  | 23 => .inl (gI G, 1024, .inl f)
  | _ => .inl (gI G, 5, .inl f)
def isPol (k : Nat) : Prop := k = 1 ∨ k = 3 ∨ k = 7 ∨ k = 9
theorem isPol.lt {k : Nat} (h : isPol k) : k < 17 := by unfold isPol at h; omega
theorem isPol.lt1 {k : Nat} (h : isPol k) : k + 1 < 17 := by unfold isPol at h; omega
theorem isPol_sel (v : Int32) : isPol (selOf v) := by unfold selOf isPol; split <;> simp
theorem isPol.cell {k : Nat} (h : isPol k) (G : Gp) (f : Nat → Int32) : cellF G k f = .inr (1, [.ref (gh G (k + 1)), .int (f 1), .int (f 2)]) := by
  rcases h with rfl | rfl | rfl | rfl <;> rfl
theorem isPol.row {k : Nat} (h : isPol k) (G : Gp) (f : Nat → Int32) : cellF G (k + 1) f = .inl (gI G, 25, .inl f) := by
  rcases h with rfl | rfl | rfl | rfl <;> rfl
def upR (st : St) (k : Nat) (f : Nat → Int32) : St := fun a => if a = k then f else st a
def up2 (st : St) (k j : Nat) (v : Int32) : St := upR st k (upd (st k) j v)
theorem upR_self (st : St) (k : Nat) (f : Nat → Int32) : upR st k f k = f := if_pos rfl
theorem upR_ne (st : St) {k a : Nat} (f : Nat → Int32) (h : a ≠ k) : upR st k f a = st a := if_neg h
def wld (G : Gp) (st : St) : va_W := (gks G).map (fun k => (gh G k, cellF G k (st k)))
def gOK (G : Gp) : Prop := (gks G).Nodup ∧ (∀ a ∈ gks G, ∀ b ∈ gks G, gh G a = gh G b → a = b) ∧ ∀ a ∈ gks G, gA G (gh G a)
theorem wld_at {G : Gp} {st : St} {k : Nat} (h : k ∈ gks G) : ∃ i : Nat, (gks G)[i]? = some k ∧ (wld G st)[i]? = some (gh G k, cellF G k (st k)) := by
  obtain ⟨i, hi⟩ := List.getElem?_of_mem h
  exact ⟨i, hi, by unfold wld; rw [List.getElem?_map, hi]; rfl⟩
theorem nodup_at : ∀ (l : List Nat), l.Nodup → ∀ (i j a : Nat), l[i]? = some a → l[j]? = some a → i = j := by
  intro l hn i j a h1 h2
  have e1 := (List.getElem?_eq_some_iff.mp h1)
  have e2 := (List.getElem?_eq_some_iff.mp h2)
  obtain ⟨l1, e1⟩ := e1
  obtain ⟨l2, e2⟩ := e2
  exact (List.getElem_inj hn).mp (e1.trans e2.symm)
theorem wld_set {G : Gp} {st : St} {k i : Nat} {f : Nat → Int32} (hO : gOK G) (hi : (gks G)[i]? = some k) : (wld G st).set i (gh G k, cellF G k f) = wld G (upR st k f) := by
  apply List.ext_getElem?
  intro j
  unfold wld
  by_cases hj : j = i
  · subst hj
    have hl : j < ((gks G).map (fun k => (gh G k, cellF G k (st k)))).length := by rw [List.length_map]; exact (List.getElem?_eq_some_iff.mp hi).1
    rw [List.getElem?_set_self hl, List.getElem?_map, hi]
    simp [upR_self]
  · rw [List.getElem?_set_ne (Ne.symm hj), List.getElem?_map, List.getElem?_map]
    cases hq : (gks G)[j]? with
    | none => rfl
    | some a =>
      have ha : a ≠ k := fun e => hj (nodup_at _ hO.1 j i k (by rw [hq, e]) hi)
      simp [upR_ne st f ha]
theorem wld_D {G : Gp} (hO : gOK G) (st : St) : va_D (gA G) (wld G st) := by
  have key : ∀ (i : Nat) (q : Nat × va_E), (wld G st)[i]? = some q → ∃ a, (gks G)[i]? = some a ∧ q.1 = gh G a := by
    intro i q h
    unfold wld at h
    rw [List.getElem?_map] at h
    cases hq : (gks G)[i]? with
    | none => rw [hq] at h; cases h
    | some a => rw [hq] at h; exact ⟨a, rfl, by cases h; rfl⟩
  refine ⟨fun i j x y hx hy hxy => ?_, fun i x hx => ?_⟩
  · obtain ⟨a, h1, h2⟩ := key i x hx
    obtain ⟨b, h3, h4⟩ := key j y hy
    have hab : a = b := hO.2.1 a (List.mem_of_getElem? h1) b (List.mem_of_getElem? h3) (by rw [← h2, ← h4]; exact hxy)
    subst hab
    exact nodup_at _ hO.1 i j a h1 h3
  · obtain ⟨a, h1, h2⟩ := key i x hx
    rw [h2]
    exact hO.2.2 a (List.mem_of_getElem? h1)
-- what the statics and the text constants hold
def vcF (j : Nat) : Int32 := [8, 4, 8, 4].getD j 0
def rsF (j : Nat) : Int32 := [7, 5, 2, 0].getD j 0
def frF (j : Nat) : Int32 := [0, 8, 12, 20].getD j 0
def nSx : Nat := 14
def lenSx : List Nat := [90, 3, 3, 3, 5, 8, 10, 7, 8, 6, 1, 4, 4, 1]
def bytSx : List (List Int32) := [[112, 101, 114, 109, 105, 116, 58, 115, 48, 49, 58, 114, 48, 49, 50, 51, 59, 100, 101, 110, 121, 58, 97, 51, 59, 117, 115, 101, 100, 101, 110, 121, 111, 118, 101, 114, 59, 110, 101, 119, 59, 112, 101, 114, 109, 105, 116, 58, 115, 48, 49, 50, 58, 114, 48, 49, 50, 51, 59, 100, 101, 110, 121, 58, 97, 51, 58, 108, 48, 49, 59, 112, 101, 114, 109, 105, 116, 58, 115, 48, 59, 117, 115, 101, 102, 105, 114, 115, 116, 59], [111, 108, 100], [110, 101, 119], [117, 115, 101], [102, 105, 114, 115, 116], [100, 101, 110, 121, 111, 118, 101, 114], [112, 101, 114, 109, 105, 116, 111, 118, 101, 114], [111, 110, 108, 121, 111, 110, 101], [109, 97, 106, 111, 114, 105, 116, 121], [112, 101, 114, 109, 105, 116], [58], [115, 97, 114, 108], [100, 101, 110, 121], [59]]
def ownSx : Nat → String := fun i => match i with
  | 0 => "PolicyComparer"
  | 1 => "PolicyComparer$PolicyText"
  | 2 => "PolicyComparer$PolicyText"
  | 3 => "PolicyComparer$PolicyText"
  | 4 => "PolicyComparer$PolicyText"
  | 5 => "PolicyComparer$PolicyText"
  | 6 => "PolicyComparer$PolicyText"
  | 7 => "PolicyComparer$PolicyText"
  | 8 => "PolicyComparer$PolicyText"
  | 9 => "PolicyComparer$PolicyText"
  | 10 => "PolicyComparer$PolicyText"
  | 11 => "PolicyComparer$PolicyText"
  | 12 => "PolicyComparer$PolicyText"
  | _ => "PolicyComparer$PolicyText"
def txtSx : Nat → String := fun i => match i with
  | 0 => "permit:s01:r0123;deny:a3;usedenyover;new;permit:s012:r0123;deny:a3:l01;permit:s0;usefirst;"
  | 1 => "old"
  | 2 => "new"
  | 3 => "use"
  | 4 => "first"
  | 5 => "denyover"
  | 6 => "permitover"
  | 7 => "onlyone"
  | 8 => "majority"
  | 9 => "permit"
  | 10 => ":"
  | 11 => "sarl"
  | 12 => "deny"
  | _ => ";"
def idxSx : Nat → Nat := fun i => match i with
  | 0 => 40
  | 1 => 48
  | 2 => 50
  | 3 => 52
  | 4 => 65
  | 5 => 67
  | 6 => 69
  | 7 => 71
  | 8 => 73
  | 9 => 57
  | 10 => 86
  | 11 => 103
  | 12 => 63
  | _ => 42
def gE (G : Gp) (U : State) : Prop :=
  (va_Z "PolicyComparer" "VALUE_COUNT" "[I" (.ref (gt1 G)) (gA G) U U.heap ∧ va_T .int (gt1 G) 4 (fun j => .int (vcF j)) (gA G) U U.heap) ∧
  (va_Z "PolicyComparer" "REQUEST_SHIFT" "[I" (.ref (gt2 G)) (gA G) U U.heap ∧ va_T .int (gt2 G) 4 (fun j => .int (rsF j)) (gA G) U U.heap) ∧
  (va_Z "PolicyComparer$Policy" "FIRST_ROW" "[I" (.ref (gt3 G)) (gA G) U U.heap ∧ va_T .int (gt3 G) 4 (fun j => .int (frF j)) (gA G) U U.heap) ∧
  va_Z "java/lang/String" "COMPACT_STRINGS" "Z" (.int 1) (gA G) U U.heap ∧
  va_Zq "jdk/internal/util/Preconditions" "SIOOBE_FORMATTER" "Ljava/util/function/BiFunction;" (gA G) U U.heap ∧
  vk_S nSx lenSx bytSx (gK G) (gV G) (gA G) U U.heap ∧
  (∀ i : Nat, i < nSx → vk_R (ownSx i) (idxSx i) (txtSx i) (gK G i) U) ∧
  va_Nw (.fieldLinkNest "PolicyComparer$Policy" 45 "PolicyComparer" "VALUE_COUNT" "[I" "PolicyComparer") U ∧
  va_Nw (.fieldLinkNest "PolicyComparer$PolicyText" 91 "PolicyComparer" "VALUE_COUNT" "[I" "PolicyComparer") U ∧
  va_Nw (.methodLinkNest "PolicyComparer" 9 yX1_init "PolicyComparer") U ∧
  va_Nw (.methodLinkNest "PolicyComparer" 21 yX2_init "PolicyComparer") U ∧
  va_Nw (.methodLinkNest "PolicyComparer" 28 yX0_init "PolicyComparer") U ∧
  va_Nw (.methodLinkNest "PolicyComparer" 35 yX3_init "PolicyComparer") U ∧
  va_Nw (.methodLinkNest "PolicyComparer$PolicyText" 17 yX1_init "PolicyComparer") U
theorem gE.pass {G : Gp} {s U : State} {H : Heap} {locs : List Loc} (h : gE G s) (hS : va_S (gA G) s.heap H locs) (hU : U.heap = H) (hW : s.WarmedH U.vm) : gE G U := by
  subst hU
  obtain ⟨⟨a1, a2⟩, ⟨b1, b2⟩, ⟨c1, c2⟩, d, f, k1, k2, n1, n2, n3, n4, n5, n6, n7⟩ := h
  have hq : ∀ a : Nat, a < s.heap.size → ¬ (gA G) a → U.heap[a]? = s.heap[a]? := hS.2.1
  have hv := hW.alike
  exact ⟨⟨(a1.kept hq).moved hv, (a2.kept hq).moved hv⟩, ⟨(b1.kept hq).moved hv, (b2.kept hq).moved hv⟩, ⟨(c1.kept hq).moved hv, (c2.kept hq).moved hv⟩, (d.kept hq).moved hv, (f.kept hq).moved hv, (k1.kept hq).moved hv, fun i hi => (k2 i hi).warm hW, va_Nw.warmF hW n1, va_Nw.warmF hW n2, va_Nw.warmM hW n3, va_Nw.warmM hW n4, va_Nw.warmM hW n5, va_Nw.warmM hW n6, va_Nw.warmM hW n7⟩
theorem gE.same {G : Gp} {u U : State} (hv : U.vm = u.vm) (hh : U.heap = u.heap) (h : gE G u) : gE G U := by
  obtain ⟨⟨a1, a2⟩, ⟨b1, b2⟩, ⟨c1, c2⟩, d, f, k1, k2, n1, n2, n3, n4, n5, n6, n7⟩ := h
  have ha : u.vm.Alike U.vm := by rw [hv]; exact Vm.Alike.refl _
  unfold gE
  rw [hh]
  exact ⟨⟨a1.moved ha, a2.moved ha⟩, ⟨b1.moved ha, b2.moved ha⟩, ⟨c1.moved ha, c2.moved ha⟩, d.moved ha, f.moved ha, k1.moved ha, fun i hi => (k2 i hi).same hv, va_Nw.same rfl hv.symm n1, va_Nw.same rfl hv.symm n2, va_Nw.same rfl hv.symm n3, va_Nw.same rfl hv.symm n4, va_Nw.same rfl hv.symm n5, va_Nw.same rfl hv.symm n6, va_Nw.same rfl hv.symm n7⟩
end
section
def Cx (p : Program) (s : State) (m : MethodId) (args : Array Value) (c : Code) (cc : ByteArray) (nL : Nat) (own : String) (G : Gp) (lo hi : Nat) : Prop :=
  p.tables.exec = Jvm.exec ∧ c.code = cc ∧ c.maxLocals = nL ∧ s.vm.findClass own = some m.cls ∧ (∀ w ∈ tblG, w.before args s = true) ∧ va_K (gD G) vwCl (gT G) s ∧ gE G s ∧ gOK G ∧ ∀ k, lo ≤ k → k < hi → k ∈ gks G
def WG (p : Program) (l : Launch) (e : Env) (R : Room) (s : State) (m : MethodId) (args : Array Value) (below : List Frame) (meth : Method) (c : Code) (cells slots : Nat) (Q : State → Prop) (G : Gp) (nL pc : Nat) (lv : List (Nat × Value)) (stk : List Value) (st : St) : Prop :=
  ∀ (H : Heap) (locs : List Loc) (ls : Array Slot), va_P (gD G) vwCl (wld G st) H → va_S (gA G) s.heap H locs → lv_has ls nL lv → W p l e R s m args below meth c H locs cells slots Q (F0 m pc ls stk)
section GROWS
variable {p : Program} {l : Launch} {e : Env} {R : Room} {s : State} {m : MethodId} {args : Array Value} {below : List Frame} {meth : Method} {c : Code} {cells slots : Nat} {Q : State → Prop} {G : Gp} {nL pc lo hi : Nat} {lv : List (Nat × Value)} {stk : List Value} {st : St} {cc : ByteArray} {own : String}
theorem Cx.win (C : Cx p s m args c cc nL own G lo hi) {k : Nat} (h1 : lo ≤ k) (h2 : k < hi) : k ∈ gks G := C.2.2.2.2.2.2.2.2 k h1 h2
theorem Cx.pol (C : Cx p s m args c cc nL own G 0 17) {k : Nat} (h : isPol k) : k ∈ gks G := C.win (Nat.zero_le _) h.lt
theorem Cx.row (C : Cx p s m args c cc nL own G 0 17) {k : Nat} (h : isPol k) : k + 1 ∈ gks G := C.win (Nat.zero_le _) h.lt1
theorem g_lv {lv' : List (Nat × Value)} (h : lv = lv') (k : WG p l e R s m args below meth c cells slots Q G nL pc lv' stk st) : WG p l e R s m args below meth c cells slots Q G nL pc lv stk st := h ▸ k
theorem g_perm {lv' : List (Nat × Value)} (ks : List Nat) (h : lv_pick lv ks = lv') (k : WG p l e R s m args below meth c cells slots Q G nL pc lv' stk st) : WG p l e R s m args below meth c cells slots Q G nL pc lv stk st :=
  fun H locs ls hP hS hl => k H locs ls hP hS (lv_sub hl ks h)
theorem g_pc {pc' : Nat} (h : pc = pc') (k : WG p l e R s m args below meth c cells slots Q G nL pc' lv stk st) : WG p l e R s m args below meth c cells slots Q G nL pc lv stk st := h ▸ k
theorem g_iconst (C : Cx p s m args c cc nL own G lo hi) {n : Int} (v : Int32) (hdg : decode cc pc = .ok (.iconst n, 1)) (hv : Int32.ofInt n = v) (k : WG p l e R s m args below meth c cells slots Q G nL (pc + 1) lv (.int v :: stk) st) : WG p l e R s m args below meth c cells slots Q G nL pc lv stk st :=
  fun H locs ls hP hS hl => lv_iconst C.1 C.2.1 hdg hv (k H locs ls hP hS hl)
theorem g_bipush (C : Cx p s m args c cc nL own G lo hi) {n : Int} (v : Int32) (hdg : decode cc pc = .ok (.bipush n, 2)) (hv : (Int8.ofInt n).toInt32 = v) (k : WG p l e R s m args below meth c cells slots Q G nL (pc + 2) lv (.int v :: stk) st) : WG p l e R s m args below meth c cells slots Q G nL pc lv stk st :=
  fun H locs ls hP hS hl => lv_bipush C.1 C.2.1 hdg hv (k H locs ls hP hS hl)
theorem g_sipush (C : Cx p s m args c cc nL own G lo hi) {n : Int} (v : Int32) (hdg : decode cc pc = .ok (.sipush n, 3)) (hv : (Int16.ofInt n).toInt32 = v) (k : WG p l e R s m args below meth c cells slots Q G nL (pc + 3) lv (.int v :: stk) st) : WG p l e R s m args below meth c cells slots Q G nL pc lv stk st :=
  fun H locs ls hP hS hl => lv_sipush C.1 C.2.1 hdg hv (k H locs ls hP hS hl)
theorem g_ldc (C : Cx p s m args c cc nL own G lo hi) {index : Nat} (v : Int32) (hw : Cond.constant own index v ∈ tblG) (hdg : decode cc pc = .ok (.ldc index, 2)) (k : WG p l e R s m args below meth c cells slots Q G nL (pc + 2) lv (.int v :: stk) st) : WG p l e R s m args below meth c cells slots Q G nL pc lv stk st :=
  fun H locs ls hP hS hl => lv_ldc C.1 C.2.1 C.2.2.2.1 (C.2.2.2.2.1 _ hw) hdg (k H locs ls hP hS hl)
theorem g_ldcw (C : Cx p s m args c cc nL own G lo hi) {index : Nat} (v : Int32) (hw : Cond.constant own index v ∈ tblG) (hdg : decode cc pc = .ok (.ldc_w index, 3)) (k : WG p l e R s m args below meth c cells slots Q G nL (pc + 3) lv (.int v :: stk) st) : WG p l e R s m args below meth c cells slots Q G nL pc lv stk st :=
  fun H locs ls hP hS hl => lv_ldcw C.1 C.2.1 C.2.2.2.1 (C.2.2.2.2.1 _ hw) hdg (k H locs ls hP hS hl)
theorem g_ldcS (C : Cx p s m args c cc nL own G lo hi) {index : Nat} (i : Nat) (hi : i < nSx) (ho : ownSx i = own) (hx : idxSx i = index) (hdg : decode cc pc = .ok (.ldc index, 2)) (k : WG p l e R s m args below meth c cells slots Q G nL (pc + 2) lv (.ref (gK G i) :: stk) st) : WG p l e R s m args below meth c cells slots Q G nL pc lv stk st := by
  intro H locs ls hP hS hl
  have h := C.2.2.2.2.2.2.1.2.2.2.2.2.2.1 i hi
  rw [ho, hx] at h
  exact va_ldcS C.1 C.2.1 C.2.2.2.1 h hdg (k H locs ls hP hS hl)
theorem g_iload_n (C : Cx p s m args c cc nL own G lo hi) {q : Fin 4} {i : Nat} {x : Int32} (j : Nat) (hdg : decode cc pc = .ok (.iload_n q, 1)) (hi : (q : Nat) = i) (ha : lv[j]? = some (i, .int x)) (k : WG p l e R s m args below meth c cells slots Q G nL (pc + 1) lv (.int x :: stk) st) : WG p l e R s m args below meth c cells slots Q G nL pc lv stk st :=
  fun H locs ls hP hS hl => lv_iload_n C.1 C.2.1 hdg hi (lv_at hl j ha) (k H locs ls hP hS hl)
theorem g_iload (C : Cx p s m args c cc nL own G lo hi) {i : Nat} {x : Int32} (j : Nat) (hdg : decode cc pc = .ok (.iload i, 2)) (ha : lv[j]? = some (i, .int x)) (k : WG p l e R s m args below meth c cells slots Q G nL (pc + 2) lv (.int x :: stk) st) : WG p l e R s m args below meth c cells slots Q G nL pc lv stk st :=
  fun H locs ls hP hS hl => lv_iload C.1 C.2.1 hdg (lv_at hl j ha) (k H locs ls hP hS hl)
theorem g_aload_n (C : Cx p s m args c cc nL own G lo hi) {q : Fin 4} {i : Nat} {x : Nat} (j : Nat) (hdg : decode cc pc = .ok (.aload_n q, 1)) (hi : (q : Nat) = i) (ha : lv[j]? = some (i, .ref x)) (k : WG p l e R s m args below meth c cells slots Q G nL (pc + 1) lv (.ref x :: stk) st) : WG p l e R s m args below meth c cells slots Q G nL pc lv stk st :=
  fun H locs ls hP hS hl => lv_aload_n C.1 C.2.1 hdg hi (lv_at hl j ha) (k H locs ls hP hS hl)
theorem g_aload (C : Cx p s m args c cc nL own G lo hi) {i : Nat} {x : Nat} (j : Nat) (hdg : decode cc pc = .ok (.aload i, 2)) (ha : lv[j]? = some (i, .ref x)) (k : WG p l e R s m args below meth c cells slots Q G nL (pc + 2) lv (.ref x :: stk) st) : WG p l e R s m args below meth c cells slots Q G nL pc lv stk st :=
  fun H locs ls hP hS hl => lv_aload C.1 C.2.1 hdg (lv_at hl j ha) (k H locs ls hP hS hl)
theorem g_istore_n (C : Cx p s m args c cc nL own G lo hi) {q : Fin 4} {i : Nat} {x : Int32} {lv' : List (Nat × Value)} (hdg : decode cc pc = .ok (.istore_n q, 1)) (hi : (q : Nat) = i) (hn : i < nL) (hl' : (i, Value.int x) :: lv.filter (fun q => !(q.1 == i) && !(q.1 + 1 == i && q.2.category == 2)) = lv') (k : WG p l e R s m args below meth c cells slots Q G nL (pc + 1) lv' stk st) : WG p l e R s m args below meth c cells slots Q G nL pc lv (.int x :: stk) st :=
  fun H locs ls hP hS hl => lv_istore_n C.1 C.2.1 hdg hi hl hn hl' (fun ls hl => k H locs ls hP hS hl)
theorem g_istore (C : Cx p s m args c cc nL own G lo hi) {i : Nat} {x : Int32} {lv' : List (Nat × Value)} (hdg : decode cc pc = .ok (.istore i, 2)) (hn : i < nL) (hl' : (i, Value.int x) :: lv.filter (fun q => !(q.1 == i) && !(q.1 + 1 == i && q.2.category == 2)) = lv') (k : WG p l e R s m args below meth c cells slots Q G nL (pc + 2) lv' stk st) : WG p l e R s m args below meth c cells slots Q G nL pc lv (.int x :: stk) st :=
  fun H locs ls hP hS hl => lv_istore C.1 C.2.1 hdg hl hn hl' (fun ls hl => k H locs ls hP hS hl)
theorem g_astore_n (C : Cx p s m args c cc nL own G lo hi) {q : Fin 4} {i : Nat} {x : Nat} {lv' : List (Nat × Value)} (hdg : decode cc pc = .ok (.astore_n q, 1)) (hi : (q : Nat) = i) (hn : i < nL) (hl' : (i, Value.ref x) :: lv.filter (fun q => !(q.1 == i) && !(q.1 + 1 == i && q.2.category == 2)) = lv') (k : WG p l e R s m args below meth c cells slots Q G nL (pc + 1) lv' stk st) : WG p l e R s m args below meth c cells slots Q G nL pc lv (.ref x :: stk) st :=
  fun H locs ls hP hS hl => lv_astore_n C.1 C.2.1 hdg hi hl hn hl' (fun ls hl => k H locs ls hP hS hl)
theorem g_astore (C : Cx p s m args c cc nL own G lo hi) {i : Nat} {x : Nat} {lv' : List (Nat × Value)} (hdg : decode cc pc = .ok (.astore i, 2)) (hn : i < nL) (hl' : (i, Value.ref x) :: lv.filter (fun q => !(q.1 == i) && !(q.1 + 1 == i && q.2.category == 2)) = lv') (k : WG p l e R s m args below meth c cells slots Q G nL (pc + 2) lv' stk st) : WG p l e R s m args below meth c cells slots Q G nL pc lv (.ref x :: stk) st :=
  fun H locs ls hP hS hl => lv_astore C.1 C.2.1 hdg hl hn hl' (fun ls hl => k H locs ls hP hS hl)
theorem g_iinc (C : Cx p s m args c cc nL own G lo hi) {i : Nat} {n : Int} {x : Int32} (v : Int32) {lv' : List (Nat × Value)} (j : Nat) (hdg : decode cc pc = .ok (.iinc i n, 3)) (ha : lv[j]? = some (i, .int x)) (hv : x + Int32.ofInt n = v) (hn : i < nL) (hl' : (i, Value.int v) :: lv.filter (fun q => !(q.1 == i) && !(q.1 + 1 == i && q.2.category == 2)) = lv') (k : WG p l e R s m args below meth c cells slots Q G nL (pc + 3) lv' stk st) : WG p l e R s m args below meth c cells slots Q G nL pc lv stk st :=
  fun H locs ls hP hS hl => lv_iinc (k := j) C.1 C.2.1 hdg hl ha hv hn hl' (fun ls hl => k H locs ls hP hS hl)
theorem g_iadd (C : Cx p s m args c cc nL own G lo hi) {x y : Int32} (hdg : decode cc pc = .ok (.iadd, 1)) (k : WG p l e R s m args below meth c cells slots Q G nL (pc + 1) lv (.int (x + y) :: stk) st) : WG p l e R s m args below meth c cells slots Q G nL pc lv (.int y :: .int x :: stk) st :=
  fun H locs ls hP hS hl => lv_iadd C.1 C.2.1 hdg (k H locs ls hP hS hl)
theorem g_isub (C : Cx p s m args c cc nL own G lo hi) {x y : Int32} (hdg : decode cc pc = .ok (.isub, 1)) (k : WG p l e R s m args below meth c cells slots Q G nL (pc + 1) lv (.int (x - y) :: stk) st) : WG p l e R s m args below meth c cells slots Q G nL pc lv (.int y :: .int x :: stk) st :=
  fun H locs ls hP hS hl => lv_isub C.1 C.2.1 hdg (k H locs ls hP hS hl)
theorem g_imul (C : Cx p s m args c cc nL own G lo hi) {x y : Int32} (hdg : decode cc pc = .ok (.imul, 1)) (k : WG p l e R s m args below meth c cells slots Q G nL (pc + 1) lv (.int (x * y) :: stk) st) : WG p l e R s m args below meth c cells slots Q G nL pc lv (.int y :: .int x :: stk) st :=
  fun H locs ls hP hS hl => lv_imul C.1 C.2.1 hdg (k H locs ls hP hS hl)
theorem g_iand (C : Cx p s m args c cc nL own G lo hi) {x y : Int32} (hdg : decode cc pc = .ok (.iand, 1)) (k : WG p l e R s m args below meth c cells slots Q G nL (pc + 1) lv (.int (x &&& y) :: stk) st) : WG p l e R s m args below meth c cells slots Q G nL pc lv (.int y :: .int x :: stk) st :=
  fun H locs ls hP hS hl => lv_iand C.1 C.2.1 hdg (k H locs ls hP hS hl)
theorem g_ior (C : Cx p s m args c cc nL own G lo hi) {x y : Int32} (hdg : decode cc pc = .ok (.ior, 1)) (k : WG p l e R s m args below meth c cells slots Q G nL (pc + 1) lv (.int (x ||| y) :: stk) st) : WG p l e R s m args below meth c cells slots Q G nL pc lv (.int y :: .int x :: stk) st :=
  fun H locs ls hP hS hl => lv_ior C.1 C.2.1 hdg (k H locs ls hP hS hl)
theorem g_ixor (C : Cx p s m args c cc nL own G lo hi) {x y : Int32} (hdg : decode cc pc = .ok (.ixor, 1)) (k : WG p l e R s m args below meth c cells slots Q G nL (pc + 1) lv (.int (x ^^^ y) :: stk) st) : WG p l e R s m args below meth c cells slots Q G nL pc lv (.int y :: .int x :: stk) st :=
  fun H locs ls hP hS hl => lv_ixor C.1 C.2.1 hdg (k H locs ls hP hS hl)
theorem g_ishl (C : Cx p s m args c cc nL own G lo hi) {x y : Int32} (hdg : decode cc pc = .ok (.ishl, 1)) (k : WG p l e R s m args below meth c cells slots Q G nL (pc + 1) lv (.int (x <<< (y &&& 31)) :: stk) st) : WG p l e R s m args below meth c cells slots Q G nL pc lv (.int y :: .int x :: stk) st :=
  fun H locs ls hP hS hl => lv_ishl C.1 C.2.1 hdg (k H locs ls hP hS hl)
theorem g_ishr (C : Cx p s m args c cc nL own G lo hi) {x y : Int32} (hdg : decode cc pc = .ok (.ishr, 1)) (k : WG p l e R s m args below meth c cells slots Q G nL (pc + 1) lv (.int (x >>> (y &&& 31)) :: stk) st) : WG p l e R s m args below meth c cells slots Q G nL pc lv (.int y :: .int x :: stk) st :=
  fun H locs ls hP hS hl => lv_ishr C.1 C.2.1 hdg (k H locs ls hP hS hl)
theorem g_idiv (C : Cx p s m args c cc nL own G lo hi) {x y : Int32} (hdg : decode cc pc = .ok (.idiv, 1)) (hne : ¬ y = 0) (k : WG p l e R s m args below meth c cells slots Q G nL (pc + 1) lv (.int (x / y) :: stk) st) : WG p l e R s m args below meth c cells slots Q G nL pc lv (.int y :: .int x :: stk) st :=
  fun H locs ls hP hS hl => lv_idiv C.1 C.2.1 hdg hne (k H locs ls hP hS hl)
theorem g_irem (C : Cx p s m args c cc nL own G lo hi) {x y : Int32} (hdg : decode cc pc = .ok (.irem, 1)) (hne : ¬ y = 0) (k : WG p l e R s m args below meth c cells slots Q G nL (pc + 1) lv (.int (x - x / y * y) :: stk) st) : WG p l e R s m args below meth c cells slots Q G nL pc lv (.int y :: .int x :: stk) st :=
  fun H locs ls hP hS hl => lv_irem C.1 C.2.1 hdg hne (k H locs ls hP hS hl)
theorem g_ineg (C : Cx p s m args c cc nL own G lo hi) {x : Int32} (hdg : decode cc pc = .ok (.ineg, 1)) (k : WG p l e R s m args below meth c cells slots Q G nL (pc + 1) lv (.int (-x) :: stk) st) : WG p l e R s m args below meth c cells slots Q G nL pc lv (.int x :: stk) st :=
  fun H locs ls hP hS hl => lv_ineg C.1 C.2.1 hdg (k H locs ls hP hS hl)
def ushr (x y : Int32) : Int32 := (x.toUInt32 >>> (y.toUInt32 &&& Int32.toUInt32 31)).toInt32
theorem g_iushr (C : Cx p s m args c cc nL own G lo hi) {x y : Int32} (hdg : decode cc pc = .ok (.iushr, 1)) (k : WG p l e R s m args below meth c cells slots Q G nL (pc + 1) lv (.int (ushr x y) :: stk) st) : WG p l e R s m args below meth c cells slots Q G nL pc lv (.int y :: .int x :: stk) st :=
  fun H locs ls hP hS hl => lv_iushr C.1 C.2.1 hdg rfl (k H locs ls hP hS hl)
def toChr (x : Int32) : Int32 := (x.toUInt32 % 65536).toInt32
theorem g_i2c (C : Cx p s m args c cc nL own G lo hi) {x : Int32} (hdg : decode cc pc = .ok (.i2c, 1)) (k : WG p l e R s m args below meth c cells slots Q G nL (pc + 1) lv (.int (toChr x) :: stk) st) : WG p l e R s m args below meth c cells slots Q G nL pc lv (.int x :: stk) st :=
  fun H locs ls hP hS hl => lv_i2c C.1 C.2.1 hdg rfl (k H locs ls hP hS hl)
theorem g_dup (C : Cx p s m args c cc nL own G lo hi) {va : Value} (hdg : decode cc pc = .ok (.dup, 1)) (hc : va.category = 1) (k : WG p l e R s m args below meth c cells slots Q G nL (pc + 1) lv (va :: va :: stk) st) : WG p l e R s m args below meth c cells slots Q G nL pc lv (va :: stk) st :=
  fun H locs ls hP hS hl => lv_dup C.1 C.2.1 hdg hc (k H locs ls hP hS hl)
theorem g_dup2 (C : Cx p s m args c cc nL own G lo hi) {va vb : Value} (hdg : decode cc pc = .ok (.dup2, 1)) (hc : va.category = 1) (hd : vb.category = 1) (k : WG p l e R s m args below meth c cells slots Q G nL (pc + 1) lv (va :: vb :: va :: vb :: stk) st) : WG p l e R s m args below meth c cells slots Q G nL pc lv (va :: vb :: stk) st :=
  fun H locs ls hP hS hl => lv_dup2_11 C.1 C.2.1 hdg hc hd (k H locs ls hP hS hl)
theorem g_pop (C : Cx p s m args c cc nL own G lo hi) {va : Value} (hdg : decode cc pc = .ok (.pop, 1)) (hc : va.category = 1) (k : WG p l e R s m args below meth c cells slots Q G nL (pc + 1) lv stk st) : WG p l e R s m args below meth c cells slots Q G nL pc lv (va :: stk) st :=
  fun H locs ls hP hS hl => lv_pop C.1 C.2.1 hdg hc (k H locs ls hP hS hl)
theorem g_goto (C : Cx p s m args c cc nL own G lo hi) {off : Int} (tgt : Nat) (hdg : decode cc pc = .ok (.goto off, 3)) (ht : (pc : Int) + off = (tgt : Int)) (k : WG p l e R s m args below meth c cells slots Q G nL tgt lv stk st) : WG p l e R s m args below meth c cells slots Q G nL pc lv stk st :=
  fun H locs ls hP hS hl => lv_goto C.1 C.2.1 hdg ht (k H locs ls hP hS hl)
theorem g_topi {x : Int32} (k : ∀ y : Int32, y = x → WG p l e R s m args below meth c cells slots Q G nL pc lv (.int y :: stk) st) : WG p l e R s m args below meth c cells slots Q G nL pc lv (.int x :: stk) st := k x rfl
theorem g_if_eq (C : Cx p s m args c cc nL own G lo hi) {x : Int32} {off : Int} (tgt : Nat) (hdg : decode cc pc = .ok (.ifCond .eq off, 3)) (ht : (pc : Int) + off = (tgt : Int)) (kt : x = 0 → WG p l e R s m args below meth c cells slots Q G nL tgt lv stk st) (kf : ¬ x = 0 → WG p l e R s m args below meth c cells slots Q G nL (pc + 3) lv stk st) : WG p l e R s m args below meth c cells slots Q G nL pc lv (.int x :: stk) st :=
  fun H locs ls hP hS hl => lv_if_eq C.1 C.2.1 hdg ht (fun h => kt h H locs ls hP hS hl) (fun h => kf h H locs ls hP hS hl)
theorem g_icmp_eq (C : Cx p s m args c cc nL own G lo hi) {x y : Int32} {off : Int} (tgt : Nat) (hdg : decode cc pc = .ok (.if_icmp .eq off, 3)) (ht : (pc : Int) + off = (tgt : Int)) (kt : x = y → WG p l e R s m args below meth c cells slots Q G nL tgt lv stk st) (kf : ¬ x = y → WG p l e R s m args below meth c cells slots Q G nL (pc + 3) lv stk st) : WG p l e R s m args below meth c cells slots Q G nL pc lv (.int y :: .int x :: stk) st :=
  fun H locs ls hP hS hl => lv_icmp_eq C.1 C.2.1 hdg ht (fun h => kt h H locs ls hP hS hl) (fun h => kf h H locs ls hP hS hl)
theorem g_if_ne (C : Cx p s m args c cc nL own G lo hi) {x : Int32} {off : Int} (tgt : Nat) (hdg : decode cc pc = .ok (.ifCond .ne off, 3)) (ht : (pc : Int) + off = (tgt : Int)) (kt : ¬ x = 0 → WG p l e R s m args below meth c cells slots Q G nL tgt lv stk st) (kf : x = 0 → WG p l e R s m args below meth c cells slots Q G nL (pc + 3) lv stk st) : WG p l e R s m args below meth c cells slots Q G nL pc lv (.int x :: stk) st :=
  fun H locs ls hP hS hl => lv_if_ne C.1 C.2.1 hdg ht (fun h => kt h H locs ls hP hS hl) (fun h => kf h H locs ls hP hS hl)
theorem g_icmp_ne (C : Cx p s m args c cc nL own G lo hi) {x y : Int32} {off : Int} (tgt : Nat) (hdg : decode cc pc = .ok (.if_icmp .ne off, 3)) (ht : (pc : Int) + off = (tgt : Int)) (kt : ¬ x = y → WG p l e R s m args below meth c cells slots Q G nL tgt lv stk st) (kf : x = y → WG p l e R s m args below meth c cells slots Q G nL (pc + 3) lv stk st) : WG p l e R s m args below meth c cells slots Q G nL pc lv (.int y :: .int x :: stk) st :=
  fun H locs ls hP hS hl => lv_icmp_ne C.1 C.2.1 hdg ht (fun h => kt h H locs ls hP hS hl) (fun h => kf h H locs ls hP hS hl)
theorem g_if_lt (C : Cx p s m args c cc nL own G lo hi) {x : Int32} {off : Int} (tgt : Nat) (hdg : decode cc pc = .ok (.ifCond .lt off, 3)) (ht : (pc : Int) + off = (tgt : Int)) (kt : x < 0 → WG p l e R s m args below meth c cells slots Q G nL tgt lv stk st) (kf : ¬ x < 0 → WG p l e R s m args below meth c cells slots Q G nL (pc + 3) lv stk st) : WG p l e R s m args below meth c cells slots Q G nL pc lv (.int x :: stk) st :=
  fun H locs ls hP hS hl => lv_if_lt C.1 C.2.1 hdg ht (fun h => kt h H locs ls hP hS hl) (fun h => kf h H locs ls hP hS hl)
theorem g_icmp_lt (C : Cx p s m args c cc nL own G lo hi) {x y : Int32} {off : Int} (tgt : Nat) (hdg : decode cc pc = .ok (.if_icmp .lt off, 3)) (ht : (pc : Int) + off = (tgt : Int)) (kt : x < y → WG p l e R s m args below meth c cells slots Q G nL tgt lv stk st) (kf : ¬ x < y → WG p l e R s m args below meth c cells slots Q G nL (pc + 3) lv stk st) : WG p l e R s m args below meth c cells slots Q G nL pc lv (.int y :: .int x :: stk) st :=
  fun H locs ls hP hS hl => lv_icmp_lt C.1 C.2.1 hdg ht (fun h => kt h H locs ls hP hS hl) (fun h => kf h H locs ls hP hS hl)
theorem g_if_ge (C : Cx p s m args c cc nL own G lo hi) {x : Int32} {off : Int} (tgt : Nat) (hdg : decode cc pc = .ok (.ifCond .ge off, 3)) (ht : (pc : Int) + off = (tgt : Int)) (kt : 0 ≤ x → WG p l e R s m args below meth c cells slots Q G nL tgt lv stk st) (kf : ¬ 0 ≤ x → WG p l e R s m args below meth c cells slots Q G nL (pc + 3) lv stk st) : WG p l e R s m args below meth c cells slots Q G nL pc lv (.int x :: stk) st :=
  fun H locs ls hP hS hl => lv_if_ge C.1 C.2.1 hdg ht (fun h => kt h H locs ls hP hS hl) (fun h => kf h H locs ls hP hS hl)
theorem g_icmp_ge (C : Cx p s m args c cc nL own G lo hi) {x y : Int32} {off : Int} (tgt : Nat) (hdg : decode cc pc = .ok (.if_icmp .ge off, 3)) (ht : (pc : Int) + off = (tgt : Int)) (kt : y ≤ x → WG p l e R s m args below meth c cells slots Q G nL tgt lv stk st) (kf : ¬ y ≤ x → WG p l e R s m args below meth c cells slots Q G nL (pc + 3) lv stk st) : WG p l e R s m args below meth c cells slots Q G nL pc lv (.int y :: .int x :: stk) st :=
  fun H locs ls hP hS hl => lv_icmp_ge C.1 C.2.1 hdg ht (fun h => kt h H locs ls hP hS hl) (fun h => kf h H locs ls hP hS hl)
theorem g_if_gt (C : Cx p s m args c cc nL own G lo hi) {x : Int32} {off : Int} (tgt : Nat) (hdg : decode cc pc = .ok (.ifCond .gt off, 3)) (ht : (pc : Int) + off = (tgt : Int)) (kt : 0 < x → WG p l e R s m args below meth c cells slots Q G nL tgt lv stk st) (kf : ¬ 0 < x → WG p l e R s m args below meth c cells slots Q G nL (pc + 3) lv stk st) : WG p l e R s m args below meth c cells slots Q G nL pc lv (.int x :: stk) st :=
  fun H locs ls hP hS hl => lv_if_gt C.1 C.2.1 hdg ht (fun h => kt h H locs ls hP hS hl) (fun h => kf h H locs ls hP hS hl)
theorem g_icmp_gt (C : Cx p s m args c cc nL own G lo hi) {x y : Int32} {off : Int} (tgt : Nat) (hdg : decode cc pc = .ok (.if_icmp .gt off, 3)) (ht : (pc : Int) + off = (tgt : Int)) (kt : y < x → WG p l e R s m args below meth c cells slots Q G nL tgt lv stk st) (kf : ¬ y < x → WG p l e R s m args below meth c cells slots Q G nL (pc + 3) lv stk st) : WG p l e R s m args below meth c cells slots Q G nL pc lv (.int y :: .int x :: stk) st :=
  fun H locs ls hP hS hl => lv_icmp_gt C.1 C.2.1 hdg ht (fun h => kt h H locs ls hP hS hl) (fun h => kf h H locs ls hP hS hl)
theorem g_if_le (C : Cx p s m args c cc nL own G lo hi) {x : Int32} {off : Int} (tgt : Nat) (hdg : decode cc pc = .ok (.ifCond .le off, 3)) (ht : (pc : Int) + off = (tgt : Int)) (kt : x ≤ 0 → WG p l e R s m args below meth c cells slots Q G nL tgt lv stk st) (kf : ¬ x ≤ 0 → WG p l e R s m args below meth c cells slots Q G nL (pc + 3) lv stk st) : WG p l e R s m args below meth c cells slots Q G nL pc lv (.int x :: stk) st :=
  fun H locs ls hP hS hl => lv_if_le C.1 C.2.1 hdg ht (fun h => kt h H locs ls hP hS hl) (fun h => kf h H locs ls hP hS hl)
theorem g_icmp_le (C : Cx p s m args c cc nL own G lo hi) {x y : Int32} {off : Int} (tgt : Nat) (hdg : decode cc pc = .ok (.if_icmp .le off, 3)) (ht : (pc : Int) + off = (tgt : Int)) (kt : x ≤ y → WG p l e R s m args below meth c cells slots Q G nL tgt lv stk st) (kf : ¬ x ≤ y → WG p l e R s m args below meth c cells slots Q G nL (pc + 3) lv stk st) : WG p l e R s m args below meth c cells slots Q G nL pc lv (.int y :: .int x :: stk) st :=
  fun H locs ls hP hS hl => lv_icmp_le C.1 C.2.1 hdg ht (fun h => kt h H locs ls hP hS hl) (fun h => kf h H locs ls hP hS hl)
theorem g_table (C : Cx p s m args c cc nL own G lo hi) {dflt lo' hi' : Int} {offs : Array Int} {len : Nat} {x : Int32} (tgt : Nat) (hdg : decode cc pc = .ok (.tableswitch dflt lo' hi' offs, len)) (h : x.toInt < lo' ∨ hi' < x.toInt) (ht : (pc : Int) + dflt = (tgt : Int)) (k : WG p l e R s m args below meth c cells slots Q G nL tgt lv stk st) : WG p l e R s m args below meth c cells slots Q G nL pc lv (.int x :: stk) st :=
  fun H locs ls hP hS hl => lv_tableOut C.1 C.2.1 hdg h ht (k H locs ls hP hS hl)
theorem g_tableIn (C : Cx p s m args c cc nL own G lo hi) {dflt lo' hi' : Int} {offs : Array Int} {len : Nat} {x : Int32} {off : Int} (tgt : Nat) (hdg : decode cc pc = .ok (.tableswitch dflt lo' hi' offs, len)) (h1 : ¬ x.toInt < lo') (h2 : ¬ hi' < x.toInt) (ho : offs[(x.toInt - lo').toNat]? = some off) (ht : (pc : Int) + off = (tgt : Int)) (k : WG p l e R s m args below meth c cells slots Q G nL tgt lv stk st) : WG p l e R s m args below meth c cells slots Q G nL pc lv (.int x :: stk) st :=
  fun H locs ls hP hS hl => lv_tableIn C.1 C.2.1 hdg h1 h2 ho ht (k H locs ls hP hS hl)
theorem g_get {ci N index kk : Nat} {Cn : String} {T : u_T} {fs : List Value} {v : Value} (C : Cx p s m args c cc nL own G lo hi) (hin : ∀ w ∈ u_ws Cn T N, w ∈ tblG) (hks : kk ∈ gks G) (hcell : cellF G kk (st kk) = .inr (ci, fs)) (hc : vwCl[ci]? = some (Cn, T, N)) (j : Nat) (hj : j < N) (hlink : Cond.fieldLink own index (T j).1 (T j).2.1 (T j).2.2.1 ∈ tblG) (hv : fs[j]? = some v) (hdg : decode cc pc = .ok (.getfield index, 3)) (k : WG p l e R s m args below meth c cells slots Q G nL (pc + 3) lv (v :: stk) st) : WG p l e R s m args below meth c cells slots Q G nL pc lv (.ref (gh G kk) :: stk) st := by
  intro H locs ls hP hS hl
  obtain ⟨i, hi1, hi2⟩ := wld_at (G := G) (st := st) hks
  rw [hcell] at hi2
  exact va_get C.1 C.2.1 C.2.2.2.2.1 hin C.2.2.2.1 C.2.2.2.2.2.1 hP i hi2 hc j hj (C.2.2.2.2.1 _ hlink) (fun _ h => h) hv hdg (k H locs ls hP hS hl)
theorem g_put {ci N index kk : Nat} {Cn : String} {T : u_T} {fs : List Value} {v : Value} {ty0 : Nat → FieldType} {ty : FieldType} (x : Int32) (C : Cx p s m args c cc nL own G lo hi) (hin : ∀ w ∈ u_ws Cn T N, w ∈ tblG) (hty : ∀ k, k < N → parseFieldDescriptor (T k).2.2.1 = some (ty0 k)) (hnm : ∀ a, a < N → ∀ b, b < N → a ≠ b → (T a).2.1 ≠ (T b).2.1) (hks : kk ∈ gks G) (hcell : cellF G kk (st kk) = .inr (ci, fs)) (hc : vwCl[ci]? = some (Cn, T, N)) (j : Nat) (hj : j < N) (hlink : Cond.fieldLink own index (T j).1 (T j).2.1 (T j).2.2.1 ∈ tblG) (hfin : (T j).2.2.2 = false) (hd : parseFieldDescriptor (T j).2.2.1 = some ty) (hn : narrow ty v = v) (hfit : fits ty v = true) (hl' : j < fs.length) (hcell' : cellF G kk (upd (st kk) j x) = .inr (ci, fs.set j v)) (hdg : decode cc pc = .ok (.putfield index, 3)) (k : WG p l e R s m args below meth c cells slots Q G nL (pc + 3) lv stk (up2 st kk j x)) : WG p l e R s m args below meth c cells slots Q G nL pc lv (v :: .ref (gh G kk) :: stk) st := by
  intro H locs ls hP hS hl
  obtain ⟨i, hi1, hi2⟩ := wld_at (G := G) (st := st) hks
  rw [hcell] at hi2
  refine va_put C.1 C.2.1 C.2.2.2.2.1 hin ty0 hty hnm C.2.2.2.1 C.2.2.2.2.2.1 hP (wld_D C.2.2.2.2.2.2.2.1 st) hS i hi2 hc j hj (C.2.2.2.2.1 _ hlink) (fun _ h => h) hfin hd hn hfit hl' hdg (fun H1 locs1 hP1 _ hS1 => ?_)
  rw [← hcell', wld_set C.2.2.2.2.2.2.2.1 hi1] at hP1
  exact k H1 locs1 ls hP1 hS1 hl
theorem g_iald {n kk : Nat} {i : Int32} (C : Cx p s m args c cc nL own G lo hi) (hks : kk ∈ gks G) (hcell : cellF G kk (st kk) = .inl (gI G, n, .inl (st kk))) (hin : vp_in i n) (hdg : decode cc pc = .ok (.iaload, 1)) (k : WG p l e R s m args below meth c cells slots Q G nL (pc + 1) lv (.int (st kk i.toNatClampNeg) :: stk) st) : WG p l e R s m args below meth c cells slots Q G nL pc lv (.int i :: .ref (gh G kk) :: stk) st := by
  intro H locs ls hP hS hl
  obtain ⟨j, hi1, hi2⟩ := wld_at (G := G) (st := st) hks
  rw [hcell] at hi2
  exact va_iald C.1 C.2.1 C.2.2.2.2.2.1 hP j 0 hi2 rfl hin hdg (k H locs ls hP hS hl)
theorem g_cald {n kk : Nat} {i : Int32} (C : Cx p s m args c cc nL own G lo hi) (hks : kk ∈ gks G) (hcell : cellF G kk (st kk) = .inl (gC G, n, .inl (st kk))) (hin : vp_in i n) (hdg : decode cc pc = .ok (.caload, 1)) (k : WG p l e R s m args below meth c cells slots Q G nL (pc + 1) lv (.int (st kk i.toNatClampNeg) :: stk) st) : WG p l e R s m args below meth c cells slots Q G nL pc lv (.int i :: .ref (gh G kk) :: stk) st := by
  intro H locs ls hP hS hl
  obtain ⟨j, hi1, hi2⟩ := wld_at (G := G) (st := st) hks
  rw [hcell] at hi2
  exact va_cald C.1 C.2.1 C.2.2.2.2.2.1 hP j 1 hi2 rfl hin hdg (k H locs ls hP hS hl)
theorem g_zald {n kk : Nat} {i : Int32} (C : Cx p s m args c cc nL own G lo hi) (hks : kk ∈ gks G) (hcell : cellF G kk (st kk) = .inl (gZ G, n, .inl (st kk))) (hin : vp_in i n) (hdg : decode cc pc = .ok (.baload, 1)) (k : WG p l e R s m args below meth c cells slots Q G nL (pc + 1) lv (.int (st kk i.toNatClampNeg) :: stk) st) : WG p l e R s m args below meth c cells slots Q G nL pc lv (.int i :: .ref (gh G kk) :: stk) st := by
  intro H locs ls hP hS hl
  obtain ⟨j, hi1, hi2⟩ := wld_at (G := G) (st := st) hks
  rw [hcell] at hi2
  exact va_zald C.1 C.2.1 C.2.2.2.2.2.1 hP j 2 hi2 rfl hin hdg (k H locs ls hP hS hl)
theorem g_iast {n kk : Nat} {i x : Int32} (C : Cx p s m args c cc nL own G lo hi) (hks : kk ∈ gks G) (hcell : ∀ f, cellF G kk f = .inl (gI G, n, .inl f)) (hin : vp_in i n) (hdg : decode cc pc = .ok (.iastore, 1)) (k : WG p l e R s m args below meth c cells slots Q G nL (pc + 1) lv stk (up2 st kk i.toNatClampNeg x)) : WG p l e R s m args below meth c cells slots Q G nL pc lv (.int x :: .int i :: .ref (gh G kk) :: stk) st := by
  intro H locs ls hP hS hl
  obtain ⟨j, hi1, hi2⟩ := wld_at (G := G) (st := st) hks
  rw [hcell] at hi2
  refine va_iast C.1 C.2.1 C.2.2.2.2.2.1 hP (wld_D C.2.2.2.2.2.2.2.1 st) hS j 0 hi2 rfl hin hdg (fun H1 locs1 hP1 _ hS1 => ?_)
  rw [← hcell, wld_set C.2.2.2.2.2.2.2.1 hi1] at hP1
  exact k H1 locs1 ls hP1 hS1 hl
theorem g_cast {n kk : Nat} {i x : Int32} (C : Cx p s m args c cc nL own G lo hi) (hks : kk ∈ gks G) (hcell : ∀ f, cellF G kk f = .inl (gC G, n, .inl f)) (hin : vp_in i n) (hdg : decode cc pc = .ok (.castore, 1)) (k : WG p l e R s m args below meth c cells slots Q G nL (pc + 1) lv stk (up2 st kk i.toNatClampNeg (vp_nar .char x))) : WG p l e R s m args below meth c cells slots Q G nL pc lv (.int x :: .int i :: .ref (gh G kk) :: stk) st := by
  intro H locs ls hP hS hl
  obtain ⟨j, hi1, hi2⟩ := wld_at (G := G) (st := st) hks
  rw [hcell] at hi2
  refine va_cast C.1 C.2.1 C.2.2.2.2.2.1 hP (wld_D C.2.2.2.2.2.2.2.1 st) hS j 1 hi2 rfl hin hdg (fun H1 locs1 hP1 _ hS1 => ?_)
  rw [← hcell, wld_set C.2.2.2.2.2.2.2.1 hi1] at hP1
  exact k H1 locs1 ls hP1 hS1 hl
theorem g_zast {n kk : Nat} {i x : Int32} (C : Cx p s m args c cc nL own G lo hi) (hks : kk ∈ gks G) (hcell : ∀ f, cellF G kk f = .inl (gZ G, n, .inl f)) (hin : vp_in i n) (hdg : decode cc pc = .ok (.bastore, 1)) (k : WG p l e R s m args below meth c cells slots Q G nL (pc + 1) lv stk (up2 st kk i.toNatClampNeg (vp_nar .boolean x))) : WG p l e R s m args below meth c cells slots Q G nL pc lv (.int x :: .int i :: .ref (gh G kk) :: stk) st := by
  intro H locs ls hP hS hl
  obtain ⟨j, hi1, hi2⟩ := wld_at (G := G) (st := st) hks
  rw [hcell] at hi2
  refine va_zast C.1 C.2.1 C.2.2.2.2.2.1 hP (wld_D C.2.2.2.2.2.2.2.1 st) hS j 2 hi2 rfl hin hdg (fun H1 locs1 hP1 _ hS1 => ?_)
  rw [← hcell, wld_set C.2.2.2.2.2.2.2.1 hi1] at hP1
  exact k H1 locs1 ls hP1 hS1 hl
theorem g_alen {n kk t0 : Nat} {cA : ClassId} {ty : FieldType} {f : Nat → Int32} (C : Cx p s m args c cc nL own G lo hi) (hks : kk ∈ gks G) (v : Int32) (hcell : cellF G kk (st kk) = .inl (cA, n, .inl f)) (ht : (gT G)[t0]? = some (cA, ty)) (hv : Int32.ofNat n = v) (hdg : decode cc pc = .ok (.arraylength, 1)) (k : WG p l e R s m args below meth c cells slots Q G nL (pc + 1) lv (.int v :: stk) st) : WG p l e R s m args below meth c cells slots Q G nL pc lv (.ref (gh G kk) :: stk) st := by
  intro H locs ls hP hS hl
  obtain ⟨j, hi1, hi2⟩ := wld_at (G := G) (st := st) hks
  rw [hcell] at hi2
  exact va_alen C.1 C.2.1 C.2.2.2.2.2.1 hP j t0 hi2 ht hv hdg (k H locs ls hP hS hl)
theorem g_copy {n0 n1 k0 k1 index : Nat} {sp dp n : Int32} (C : Cx p s m args c cc nL own G lo hi) (hlink : Cond.methodLink own index arraycopyName ∈ tblG) (hw : Cond.native arraycopyName ∈ tblG ∧ Cond.static arraycopyName ∈ tblG ∧ Cond.initialized "java/lang/System" ∈ tblG) (hk0 : k0 ∈ gks G) (hk1 : k1 ∈ gks G) (hc0 : ∀ f, cellF G k0 f = .inl (gI G, n0, .inl f)) (hc1 : ∀ f, cellF G k1 f = .inl (gI G, n1, .inl f))
    (h : ¬ sp < 0 ∧ ¬ dp < 0 ∧ ¬ n < 0 ∧ sp.toNatClampNeg + n.toNatClampNeg ≤ n0 ∧ dp.toNatClampNeg + n.toNatClampNeg ≤ n1) (hframes : 1 ≤ R.frames) (hlocals : (stk.map fun v => v.category).sum + (nativeFrameWords "java/lang/System" "arraycopy" 5 + 11) ≤ R.locals) (hdg : decode cc pc = .ok (.invokestatic index, 3))
    (k : WG p l e R s m args below meth c cells slots Q G nL (pc + 3) lv stk (upR st k1 (va_cpy (st k0) (st k1) sp.toNatClampNeg dp.toNatClampNeg n.toNatClampNeg))) : WG p l e R s m args below meth c cells slots Q G nL pc lv (.int n :: .int dp :: .ref (gh G k1) :: .int sp :: .ref (gh G k0) :: stk) st := by
  intro H locs ls hP hS hl
  obtain ⟨j0, hi0, hj0⟩ := wld_at (G := G) (st := st) hk0
  obtain ⟨j1, hi1, hj1⟩ := wld_at (G := G) (st := st) hk1
  rw [hc0] at hj0
  rw [hc1] at hj1
  refine va_copyi C.1 C.2.1 (C.2.2.1.trans hl.1.symm) C.2.2.2.1 (C.2.2.2.2.1 _ hlink) (C.2.2.2.2.1 _ hw.1) (C.2.2.2.2.1 _ hw.2.1) (C.2.2.2.2.1 _ hw.2.2) C.2.2.2.2.2.1 hP (wld_D C.2.2.2.2.2.2.2.1 st) hS j0 j1 0 0 hj0 hj1 rfl rfl rfl h.1 h.2.1 h.2.2.1 h.2.2.2.1 h.2.2.2.2 (fun i _ => rfl) hframes hlocals hdg (fun H1 locs1 hP1 _ hS1 => ?_)
  rw [← hc1, wld_set C.2.2.2.2.2.2.2.1 hi1] at hP1
  exact k H1 locs1 ls hP1 hS1 hl
end GROWS
end
section
def gB (G : Gp) (st : St) (t : State) : Prop := va_P (gD G) vwCl (wld G st) t.heap
def gPre (G : Gp) (av : List Value) (st : St) : Array Value → State → Prop := va_Pc av (fun U => va_P (gD G) vwCl (wld G st) U.heap ∧ va_K (gD G) vwCl (gT G) U ∧ gE G U)
def MI (l : Launch) (G : Gp) (y : MethodName) (cc : ByteArray) (n : Nat) (ret : Option FieldType) (rm : Room) (av : List Value) (st : St) (Q : Int32 → St → Prop) : Prop :=
  Met l y (.code y cc n ret :: tblG) rm (gPre G av st) (va_Qi Q (gB G) (gA G)) 0 0 (gA G)
def MV (l : Launch) (G : Gp) (y : MethodName) (cc : ByteArray) (n : Nat) (rm : Room) (av : List Value) (st : St) (Q : St → Prop) : Prop :=
  Met l y (.code y cc n none :: tblG) rm (gPre G av st) (va_Qv Q (gB G) (gA G)) 0 0 (gA G)
def MR (l : Launch) (G : Gp) (y : MethodName) (cc : ByteArray) (n : Nat) (ret : Option FieldType) (rm : Room) (av : List Value) (st : St) (Q : Nat → St → Prop) : Prop :=
  Met l y (.code y cc n ret :: tblG) rm (gPre G av st) (va_Qr (S := Nat × St) (fun u => Q u.1 u.2) (fun u a t => a = gh G u.1 ∧ gB G u.2 t) (gA G)) 0 0 (gA G)
theorem gPre_blind (G : Gp) (av : List Value) (st : St) : FrameBlind (gPre G av st) := by
  intro a U g mk h
  obtain ⟨h0, h1, h2, h3⟩ := h
  exact ⟨h0, h1, va_K.moved (u := U) (U := U.calling g mk a) (Vm.Alike.refl U.vm) h2, gE.same (u := U) rfl rfl h3⟩
/-- a callee's words -/
def Kw (y : MethodName) (cy : ByteArray) (ny : Nat) (ret : Option FieldType) (na : Nat) : Prop :=
  Cond.code y cy ny ret ∈ tblG ∧ Cond.initialized y.cls ∈ tblG ∧ (y.cls ≠ "java/lang/invoke/MethodHandle" ∧ y.cls ≠ "java/lang/invoke/VarHandle" ∧ (parseMethodDescriptor y.desc).map (fun d => d.parameters.length) = some na)
def Kv (y : MethodName) (cy : ByteArray) (ny : Nat) (ret : Option FieldType) (na : Nat) : Prop := Kw y cy ny ret na ∧ Cond.instanceMethod y ∈ tblG ∧ Cond.selects y.cls y y ∈ tblG
def Ks (y : MethodName) (cy : ByteArray) (ny : Nat) (ret : Option FieldType) (na : Nat) : Prop := Kw y cy ny ret na ∧ Cond.static y ∈ tblG
section GCALLS
variable {p : Program} {l : Launch} {e : Env} {R : Room} {s : State} {m : MethodId} {args : Array Value} {below : List Frame} {meth : Method} {c : Code} {cells slots : Nat} {Q : State → Prop} {G : Gp} {nL pc lo hi : Nat} {lv : List (Nat × Value)} {stk : List Value} {st : St} {cc : ByteArray} {own : String}
variable {y : MethodName} {cy : ByteArray} {ny na index : Nat} {ret : Option FieldType} {rm : Room} {As rest : List Value} {b : Nat}
theorem g_callB (C : Cx p s m args c cc nL own G lo hi) (K : Kw y cy ny ret na) (hl : Cond.methodLink own index y ∈ tblG) (hrc : rm.cells = 0) (hrs : rm.slots = 0) (hR : rm.frames + 1 ≤ R.frames ∧ 8 + (ny + 11) + rm.locals ≤ R.locals) : CallB R s args own index y cy ny ret (.code y cy ny ret :: tblG) rm 0 0 na :=
  callB_of na C.2.2.2.2.1 (tblG_goodIn K.1) rfl hrc hrs (C.2.2.2.2.1 _ K.2.1) (C.2.2.2.2.1 _ hl) K.2.2 hR
theorem g_pre (C : Cx p s m args c cc nL own G lo hi) {H : Heap} {locs : List Loc} (hP : va_P (gD G) vwCl (wld G st) H) (hS : va_S (gA G) s.heap H locs) (av : List Value) (U : State) (hU : U.heap = H) (hW : s.WarmedH U.vm) : gPre G av st av.toArray U :=
  ⟨rfl, by rw [hU]; exact hP, va_K.moved hW.alike C.2.2.2.2.2.1, C.2.2.2.2.2.2.1.pass hS hU hW⟩
theorem g_recv {H : Heap} {kk ci : Nat} {q : vw_C} {fs : List Value} (C : Cx p s m args c cc nL own G lo hi) (hP : va_P (gD G) vwCl (wld G st) H) (hks : kk ∈ gks G) (hcell : cellF G kk (st kk) = .inr (ci, fs)) (hc : vwCl[ci]? = some q) : ∃ cell : Cell, H[gh G kk]? = some cell ∧ cell.vm.isStatics = false ∧ s.vm.findClass q.1 = some cell.cls := by
  obtain ⟨i, hi1, hi2⟩ := wld_at (G := G) (st := st) hks
  rw [hcell] at hi2
  exact va_recv C.2.2.2.2.2.1 hP hc hi2
/-- the receiver, of the wanted kind, whatever the heap is -/
def Rv (G : Gp) (s : State) (st : St) (b : Nat) (Cn : String) : Prop := ∀ (H : Heap) (locs : List Loc), va_P (gD G) vwCl (wld G st) H → va_S (gA G) s.heap H locs → ∃ cell : Cell, H[b]? = some cell ∧ cell.vm.isStatics = false ∧ s.vm.findClass Cn = some cell.cls
theorem Rv.of {kk ci : Nat} {q : vw_C} {fs : List Value} (C : Cx p s m args c cc nL own G lo hi) (hks : kk ∈ gks G) (hcell : cellF G kk (st kk) = .inr (ci, fs)) (hc : vwCl[ci]? = some q) : Rv G s st (gh G kk) q.1 := fun _ _ hP _ => g_recv C hP hks hcell hc
theorem Rv.str (C : Cx p s m args c cc nL own G lo hi) {i : Nat} (hi : i < nSx) : Rv G s st (gK G i) "java/lang/String" := fun _ _ _ hS => vk_recv C.2.2.2.2.2.2.1.2.2.2.2.2.1 hi hS
theorem g_runV {Qc : Array Value → State → Outcome → State → Prop} (C : Cx p s m args c cc nL own G lo hi) (hM : Met l y (.code y cy ny ret :: tblG) rm (gPre G (.ref b :: As) st) Qc 0 0 (gA G)) (K : Kv y cy ny ret na) (hlk : Cond.methodLink own index y ∈ tblG) (hv : Rv G s st b y.cls) (hrc : rm.cells = 0) (hrs : rm.slots = 0) (hR : rm.frames + 1 ≤ R.frames ∧ 8 + (ny + 11) + rm.locals ≤ R.locals) (hn : As.length = na) (hstk : stk = As.reverse ++ .ref b :: rest) (hW : (rest.map fun v => v.category).sum ≤ 8) (hdg : decode cc pc = .ok (.invokevirtual index, 3)) (hf : cells ≤ R.cells ∧ slots ≤ R.slots)
    {H : Heap} {locs : List Loc} {ls : Array Slot} (hP : va_P (gD G) vwCl (wld G st) H) (hS : va_S (gA G) s.heap H locs) (hl : lv_has ls nL lv) : va_Run p l e R s m args below meth c H locs cells slots 0 0 (F0 m pc ls stk) rest (Qc (Value.ref b :: As).toArray) (gA G) :=
  va_runV (C := y.cls) (As := As) (rest := rest) (b := b) ⟨C.1, C.2.1, C.2.2.1, C.2.2.2.1, C.2.2.2.2.1⟩ hM ⟨g_callB C K.1 hlk hrc hrs hR, C.2.2.2.2.1 _ K.2.1, C.2.2.2.2.1 _ K.2.2⟩ ⟨gPre_blind G _ st, hv H locs hP hS, fun U hU hW => g_pre C hP hS (.ref b :: As) U hU hW⟩ rfl hn hl.1 hstk (lv_room hW) hdg hf
theorem g_runS {Qc : Array Value → State → Outcome → State → Prop} (C : Cx p s m args c cc nL own G lo hi) (hM : Met l y (.code y cy ny ret :: tblG) rm (gPre G As st) Qc 0 0 (gA G)) (K : Ks y cy ny ret na) (hlk : Cond.methodLink own index y ∈ tblG) (hrc : rm.cells = 0) (hrs : rm.slots = 0) (hR : rm.frames + 1 ≤ R.frames ∧ 8 + (ny + 11) + rm.locals ≤ R.locals) (hn : As.length = na) (hstk : stk = As.reverse ++ rest) (hW : (rest.map fun v => v.category).sum ≤ 8) (hdg : decode cc pc = .ok (.invokestatic index, 3)) (hf : cells ≤ R.cells ∧ slots ≤ R.slots)
    {H : Heap} {locs : List Loc} {ls : Array Slot} (hP : va_P (gD G) vwCl (wld G st) H) (hS : va_S (gA G) s.heap H locs) (hl : lv_has ls nL lv) : va_Run p l e R s m args below meth c H locs cells slots 0 0 (F0 m pc ls stk) rest (Qc As.toArray) (gA G) :=
  va_runS (As := As) (rest := rest) ⟨C.1, C.2.1, C.2.2.1, C.2.2.2.1, C.2.2.2.2.1⟩ hM ⟨g_callB C K.1 hlk hrc hrs hR, C.2.2.2.2.1 _ K.2⟩ ⟨gPre_blind G _ st, fun U hU hW => g_pre C hP hS As U hU hW⟩ rfl hn hl.1 hstk (lv_room hW) hdg hf
theorem g_callVi {Q' : Int32 → St → Prop} (C : Cx p s m args c cc nL own G lo hi) (hM : MI l G y cy ny ret rm (.ref b :: As) st Q') (K : Kv y cy ny ret na) (hlk : Cond.methodLink own index y ∈ tblG) (hv : Rv G s st b y.cls) (hrc : rm.cells = 0) (hrs : rm.slots = 0) (hR : rm.frames + 1 ≤ R.frames ∧ 8 + (ny + 11) + rm.locals ≤ R.locals) (hn : As.length = na) (hstk : stk = As.reverse ++ .ref b :: rest) (hW : (rest.map fun v => v.category).sum ≤ 8) (hdg : decode cc pc = .ok (.invokevirtual index, 3)) (hf : cells ≤ R.cells ∧ slots ≤ R.slots)
    (k : ∀ (r : Int32) (st' : St), Q' r st' → WG p l e R s m args below meth c cells slots Q G nL (pc + 3) lv (.int r :: rest) st') : WG p l e R s m args below meth c cells slots Q G nL pc lv stk st :=
  fun H locs ls hP hS hl => va_calli (g_runV C hM K hlk hv hrc hrs hR hn hstk hW hdg hf hP hS hl) hS (fun _ _ h => h) (fun _ h => h) (fun r u t H1 locs1 ht hvm hw hB hz hk hS1 => k r u hw H1 locs1 ls (by rw [← ht]; exact hB) hS1 hl)
theorem g_callVv {Q' : St → Prop} (C : Cx p s m args c cc nL own G lo hi) (hM : MV l G y cy ny rm (.ref b :: As) st Q') (K : Kv y cy ny none na) (hlk : Cond.methodLink own index y ∈ tblG) (hv : Rv G s st b y.cls) (hrc : rm.cells = 0) (hrs : rm.slots = 0) (hR : rm.frames + 1 ≤ R.frames ∧ 8 + (ny + 11) + rm.locals ≤ R.locals) (hn : As.length = na) (hstk : stk = As.reverse ++ .ref b :: rest) (hW : (rest.map fun v => v.category).sum ≤ 8) (hdg : decode cc pc = .ok (.invokevirtual index, 3)) (hf : cells ≤ R.cells ∧ slots ≤ R.slots)
    (k : ∀ (st' : St), Q' st' → WG p l e R s m args below meth c cells slots Q G nL (pc + 3) lv rest st') : WG p l e R s m args below meth c cells slots Q G nL pc lv stk st :=
  fun H locs ls hP hS hl => va_callv (g_runV C hM K hlk hv hrc hrs hR hn hstk hW hdg hf hP hS hl) hS (fun _ _ h => h) (fun _ h => h) (fun u t H1 locs1 ht hvm hw hB hz hk hS1 => k u hw H1 locs1 ls (by rw [← ht]; exact hB) hS1 hl)
theorem g_callVr {Q' : Nat → St → Prop} (C : Cx p s m args c cc nL own G lo hi) (hM : MR l G y cy ny ret rm (.ref b :: As) st Q') (K : Kv y cy ny ret na) (hlk : Cond.methodLink own index y ∈ tblG) (hv : Rv G s st b y.cls) (hrc : rm.cells = 0) (hrs : rm.slots = 0) (hR : rm.frames + 1 ≤ R.frames ∧ 8 + (ny + 11) + rm.locals ≤ R.locals) (hn : As.length = na) (hstk : stk = As.reverse ++ .ref b :: rest) (hW : (rest.map fun v => v.category).sum ≤ 8) (hdg : decode cc pc = .ok (.invokevirtual index, 3)) (hf : cells ≤ R.cells ∧ slots ≤ R.slots)
    (k : ∀ (r : Nat) (st' : St), Q' r st' → WG p l e R s m args below meth c cells slots Q G nL (pc + 3) lv (.ref (gh G r) :: rest) st') : WG p l e R s m args below meth c cells slots Q G nL pc lv stk st :=
  fun H locs ls hP hS hl => va_callr (g_runV C hM K hlk hv hrc hrs hR hn hstk hW hdg hf hP hS hl) hS (fun _ _ h => h) (fun _ h => h) (fun u a t H1 locs1 ht hvm hw hB hz hk hS1 => by rw [hB.1]; exact k u.1 u.2 hw H1 locs1 ls (by rw [← ht]; exact hB.2) hS1 hl)
theorem g_callSi {Q' : Int32 → St → Prop} (C : Cx p s m args c cc nL own G lo hi) (hM : MI l G y cy ny ret rm As st Q') (K : Ks y cy ny ret na) (hlk : Cond.methodLink own index y ∈ tblG) (hrc : rm.cells = 0) (hrs : rm.slots = 0) (hR : rm.frames + 1 ≤ R.frames ∧ 8 + (ny + 11) + rm.locals ≤ R.locals) (hn : As.length = na) (hstk : stk = As.reverse ++ rest) (hW : (rest.map fun v => v.category).sum ≤ 8) (hdg : decode cc pc = .ok (.invokestatic index, 3)) (hf : cells ≤ R.cells ∧ slots ≤ R.slots)
    (k : ∀ (r : Int32) (st' : St), Q' r st' → WG p l e R s m args below meth c cells slots Q G nL (pc + 3) lv (.int r :: rest) st') : WG p l e R s m args below meth c cells slots Q G nL pc lv stk st :=
  fun H locs ls hP hS hl => va_calli (g_runS C hM K hlk hrc hrs hR hn hstk hW hdg hf hP hS hl) hS (fun _ _ h => h) (fun _ h => h) (fun r u t H1 locs1 ht hvm hw hB hz hk hS1 => k r u hw H1 locs1 ls (by rw [← ht]; exact hB) hS1 hl)
theorem g_callSv {Q' : St → Prop} (C : Cx p s m args c cc nL own G lo hi) (hM : MV l G y cy ny rm As st Q') (K : Ks y cy ny none na) (hlk : Cond.methodLink own index y ∈ tblG) (hrc : rm.cells = 0) (hrs : rm.slots = 0) (hR : rm.frames + 1 ≤ R.frames ∧ 8 + (ny + 11) + rm.locals ≤ R.locals) (hn : As.length = na) (hstk : stk = As.reverse ++ rest) (hW : (rest.map fun v => v.category).sum ≤ 8) (hdg : decode cc pc = .ok (.invokestatic index, 3)) (hf : cells ≤ R.cells ∧ slots ≤ R.slots)
    (k : ∀ (st' : St), Q' st' → WG p l e R s m args below meth c cells slots Q G nL (pc + 3) lv rest st') : WG p l e R s m args below meth c cells slots Q G nL pc lv stk st :=
  fun H locs ls hP hS hl => va_callv (g_runS C hM K hlk hrc hrs hR hn hstk hW hdg hf hP hS hl) hS (fun _ _ h => h) (fun _ h => h) (fun u t H1 locs1 ht hvm hw hB hz hk hS1 => k u hw H1 locs1 ls (by rw [← ht]; exact hB) hS1 hl)
theorem g_callSr {Q' : Nat → St → Prop} (C : Cx p s m args c cc nL own G lo hi) (hM : MR l G y cy ny ret rm As st Q') (K : Ks y cy ny ret na) (hlk : Cond.methodLink own index y ∈ tblG) (hrc : rm.cells = 0) (hrs : rm.slots = 0) (hR : rm.frames + 1 ≤ R.frames ∧ 8 + (ny + 11) + rm.locals ≤ R.locals) (hn : As.length = na) (hstk : stk = As.reverse ++ rest) (hW : (rest.map fun v => v.category).sum ≤ 8) (hdg : decode cc pc = .ok (.invokestatic index, 3)) (hf : cells ≤ R.cells ∧ slots ≤ R.slots)
    (k : ∀ (r : Nat) (st' : St), Q' r st' → WG p l e R s m args below meth c cells slots Q G nL (pc + 3) lv (.ref (gh G r) :: rest) st') : WG p l e R s m args below meth c cells slots Q G nL pc lv stk st :=
  fun H locs ls hP hS hl => va_callr (g_runS C hM K hlk hrc hrs hR hn hstk hW hdg hf hP hS hl) hS (fun _ _ h => h) (fun _ h => h) (fun u a t H1 locs1 ht hvm hw hB hz hk hS1 => by rw [hB.1]; exact k u.1 u.2 hw H1 locs1 ls (by rw [← ht]; exact hB.2) hS1 hl)
theorem MI.of {Q : Int32 → St → Prop} {av : List Value} (hO : gOK G) (hwin : ∀ k, lo ≤ k → k < hi → k ∈ gks G) (hy : plainName y.cls = true) (ho : y.cls = own) (hn : (lg_sl av).length ≤ nL)
    (body : ∀ (p : Program) (e : Env) (s : State) (m : MethodId) (args : Array Value) (below : List Frame) (meth : Method) (c : Code), Cx p s m args c cc nL own G lo hi → meth.sig.returnType = ret → meth.locks = false → WG p l e rm s m args below meth c 0 0 (MQ below (va_Qi Q (gB G) (gA G)) args s 0 0 (gA G)) G nL 0 (lv_args 0 av) [] st) : MI l G y cc nL ret rm av st Q := by
  refine Met.ofW (cc := cc) (maxL := nL) (ret := ret) hy rfl ?_
  intro p e s m args below meth c s₁ B hml hv
  obtain ⟨rfl, hP, hK, hE⟩ := hv
  have hts := atoms_spec (ws := .code y cc nL ret :: tblG) B.pre
  have hown : s.vm.findClass own = some m.cls := by rw [← ho]; exact findClass_of_methodNamed B.named
  have hl := lv_entry av hn
  rw [lg_entry_eq]
  exact body p e s m _ below meth c ⟨B.exec, B.bytes, hml, hown, fun w hw => hts w (List.mem_cons_of_mem _ hw), hK, hE, hO, hwin⟩ B.returns B.notSynchronized s.heap [] _ hP va_S.rf hl
theorem MV.of {Q : St → Prop} {av : List Value} (hO : gOK G) (hwin : ∀ k, lo ≤ k → k < hi → k ∈ gks G) (hy : plainName y.cls = true) (ho : y.cls = own) (hn : (lg_sl av).length ≤ nL)
    (body : ∀ (p : Program) (e : Env) (s : State) (m : MethodId) (args : Array Value) (below : List Frame) (meth : Method) (c : Code), Cx p s m args c cc nL own G lo hi → meth.sig.returnType = none → meth.locks = false → WG p l e rm s m args below meth c 0 0 (MQ below (va_Qv Q (gB G) (gA G)) args s 0 0 (gA G)) G nL 0 (lv_args 0 av) [] st) : MV l G y cc nL rm av st Q := by
  refine Met.ofW (cc := cc) (maxL := nL) (ret := none) hy rfl ?_
  intro p e s m args below meth c s₁ B hml hv
  obtain ⟨rfl, hP, hK, hE⟩ := hv
  have hts := atoms_spec (ws := .code y cc nL none :: tblG) B.pre
  have hown : s.vm.findClass own = some m.cls := by rw [← ho]; exact findClass_of_methodNamed B.named
  have hl := lv_entry av hn
  rw [lg_entry_eq]
  exact body p e s m _ below meth c ⟨B.exec, B.bytes, hml, hown, fun w hw => hts w (List.mem_cons_of_mem _ hw), hK, hE, hO, hwin⟩ B.returns B.notSynchronized s.heap [] _ hP va_S.rf hl
theorem MR.of {Q : Nat → St → Prop} {av : List Value} (hO : gOK G) (hwin : ∀ k, lo ≤ k → k < hi → k ∈ gks G) (hy : plainName y.cls = true) (ho : y.cls = own) (hn : (lg_sl av).length ≤ nL)
    (body : ∀ (p : Program) (e : Env) (s : State) (m : MethodId) (args : Array Value) (below : List Frame) (meth : Method) (c : Code), Cx p s m args c cc nL own G lo hi → meth.sig.returnType = ret → meth.locks = false → WG p l e rm s m args below meth c 0 0 (MQ below (va_Qr (S := Nat × St) (fun u => Q u.1 u.2) (fun u a t => a = gh G u.1 ∧ gB G u.2 t) (gA G)) args s 0 0 (gA G)) G nL 0 (lv_args 0 av) [] st) : MR l G y cc nL ret rm av st Q := by
  refine Met.ofW (cc := cc) (maxL := nL) (ret := ret) hy rfl ?_
  intro p e s m args below meth c s₁ B hml hv
  obtain ⟨rfl, hP, hK, hE⟩ := hv
  have hts := atoms_spec (ws := .code y cc nL ret :: tblG) B.pre
  have hown : s.vm.findClass own = some m.cls := by rw [← ho]; exact findClass_of_methodNamed B.named
  have hl := lv_entry av hn
  rw [lg_entry_eq]
  exact body p e s m _ below meth c ⟨B.exec, B.bytes, hml, hown, fun w hw => hts w (List.mem_cons_of_mem _ hw), hK, hE, hO, hwin⟩ B.returns B.notSynchronized s.heap [] _ hP va_S.rf hl
theorem g_iret {Q' : Int32 → St → Prop} {v : Int32} (C : Cx p s m args c cc nL own G lo hi) (hr : meth.sig.returnType = some .int) (hlk : meth.locks = false) (hq : Q' v st) (hdg : decode cc pc = .ok (.ireturn, 1)) : WG p l e R s m args below meth c 0 0 (MQ below (va_Qi Q' (gB G) (gA G)) args s 0 0 (gA G)) G nL pc lv [.int v] st :=
  fun H locs ls hP hS hl => W.iret C.1 C.2.1 hr (fun t ht hW => ⟨⟨v, st, rfl, hq, by unfold gB; rw [ht]; exact hP⟩, hS.F ht⟩) hS.2.2 hdg hlk
theorem nar_bool {v : Int32} (h : v = 0 ∨ v = 1) : narrow .boolean (.int v) = .int v := by rcases h with rfl | rfl <;> rfl
theorem g_zret {Q' : Int32 → St → Prop} {v : Int32} {ty : FieldType} (C : Cx p s m args c cc nL own G lo hi) (hr : meth.sig.returnType = some ty) (hlk : meth.locks = false) (hn : narrow ty (.int v) = .int v) (hq : Q' v st) (hdg : decode cc pc = .ok (.ireturn, 1)) : WG p l e R s m args below meth c 0 0 (MQ below (va_Qi Q' (gB G) (gA G)) args s 0 0 (gA G)) G nL pc lv [.int v] st :=
  fun H locs ls hP hS hl => W.zret C.1 C.2.1 hr hn (fun t ht hW => ⟨⟨v, st, rfl, hq, by unfold gB; rw [ht]; exact hP⟩, hS.F ht⟩) hS.2.2 hdg hlk
theorem g_vret {Q' : St → Prop} (C : Cx p s m args c cc nL own G lo hi) (hr : meth.sig.returnType = none) (hlk : meth.locks = false) (hq : Q' st) (hdg : decode cc pc = .ok (.return_, 1)) : WG p l e R s m args below meth c 0 0 (MQ below (va_Qv Q' (gB G) (gA G)) args s 0 0 (gA G)) G nL pc lv [] st :=
  fun H locs ls hP hS hl => W.vret C.1 C.2.1 hr (fun t ht hW => ⟨⟨st, rfl, hq, by unfold gB; rw [ht]; exact hP⟩, hS.F ht⟩) hS.2.2 hdg hlk
theorem g_aret {Q' : Nat → St → Prop} {kk : Nat} {nm : String} (C : Cx p s m args c cc nL own G lo hi) (hr : meth.sig.returnType = some (.object nm)) (hlk : meth.locks = false) (hq : Q' kk st) (hdg : decode cc pc = .ok (.areturn, 1)) : WG p l e R s m args below meth c 0 0 (MQ below (va_Qr (S := Nat × St) (fun u => Q' u.1 u.2) (fun u a t => a = gh G u.1 ∧ gB G u.2 t) (gA G)) args s 0 0 (gA G)) G nL pc lv [.ref (gh G kk)] st :=
  fun H locs ls hP hS hl => W.aret C.1 C.2.1 hr (Or.inl ⟨nm, rfl⟩) (Or.inr ⟨_, rfl⟩) (fun t ht hW => ⟨⟨(kk, st), gh G kk, rfl, hq, rfl, by unfold gB; rw [ht]; exact hP⟩, hS.F ht⟩) hS.2.2 hdg hlk
-- statics
theorem g_gets {Cn n d : String} {v : Value} (C : Cx p s m args c cc nL own G lo hi) (hZ : gE G s → va_Z Cn n d v (gA G) s s.heap) (hlink : Cond.fieldLink own index Cn n d ∈ tblG) (hdg : decode cc pc = .ok (.getstatic index, 3)) (k : WG p l e R s m args below meth c cells slots Q G nL (pc + 3) lv (v :: stk) st) : WG p l e R s m args below meth c cells slots Q G nL pc lv stk st :=
  fun H locs ls hP hS hl => va_gets C.1 C.2.1 (hZ C.2.2.2.2.2.2.1) hS C.2.2.2.1 (C.2.2.2.2.1 _ hlink) (fun _ h => h) hdg (k H locs ls hP hS hl)
theorem g_getsN {Cn n d host : String} {v : Value} (C : Cx p s m args c cc nL own G lo hi) (hZ : gE G s → va_Z Cn n d v (gA G) s s.heap) (hlink : gE G s → va_Nw (.fieldLinkNest own index Cn n d host) s) (hdg : decode cc pc = .ok (.getstatic index, 3)) (k : WG p l e R s m args below meth c cells slots Q G nL (pc + 3) lv (v :: stk) st) : WG p l e R s m args below meth c cells slots Q G nL pc lv stk st :=
  fun H locs ls hP hS hl => va_getsN C.1 C.2.1 (hZ C.2.2.2.2.2.2.1) hS C.2.2.2.1 (va_Nw.use rfl (hlink C.2.2.2.2.2.2.1)) (fun _ h => h) hdg (k H locs ls hP hS hl)
theorem g_ti {t N : Nat} {f : Nat → Int32} {i : Int32} (C : Cx p s m args c cc nL own G lo hi) (hT : gE G s → va_T .int t N (fun j => .int (f j)) (gA G) s s.heap) (hin : vp_in i N) (hdg : decode cc pc = .ok (.iaload, 1)) (k : WG p l e R s m args below meth c cells slots Q G nL (pc + 1) lv (.int (f i.toNatClampNeg) :: stk) st) : WG p l e R s m args below meth c cells slots Q G nL pc lv (.int i :: .ref t :: stk) st :=
  fun H locs ls hP hS hl => va_ti C.1 C.2.1 (hT C.2.2.2.2.2.2.1) hS hin rfl hdg (k H locs ls hP hS hl)
end GCALLS
end
section
theorem tw_37 : Cond.initialized RX1 ∈ tblG := tblG_in 37 (by decide +kernel) rfl
theorem tw_48 : Cond.initialized RJ6 ∈ tblG := tblG_in 48 (by decide +kernel) rfl
theorem tw_63 : Cond.fieldLink RX1 11 "PolicyComparer$Policy" "rows" "[I" ∈ tblG := tblG_in 63 (by decide +kernel) rfl
theorem tw_64 : Cond.fieldLink RX1 15 "PolicyComparer$Policy" "count" "I" ∈ tblG := tblG_in 64 (by decide +kernel) rfl
theorem tw_65 : Cond.fieldLink RX1 19 "PolicyComparer$Policy" "algorithm" "I" ∈ tblG := tblG_in 65 (by decide +kernel) rfl
theorem tw_222 : Cond.instanceMethod yX1_use ∈ tblG := tblG_in 222 (by decide +kernel) rfl
theorem tw_223 : Cond.selects yX1_use.cls yX1_use yX1_use ∈ tblG := tblG_in 223 (by decide +kernel) rfl
theorem tw_224 : Cond.code yX1_use cX1_use 2 none ∈ tblG := tblG_in 224 (by decide +kernel) rfl
theorem tw_231 : Cond.instanceMethod yX1_size ∈ tblG := tblG_in 231 (by decide +kernel) rfl
theorem tw_232 : Cond.selects yX1_size.cls yX1_size yX1_size ∈ tblG := tblG_in 232 (by decide +kernel) rfl
theorem tw_233 : Cond.code yX1_size cX1_size 1 (some .int) ∈ tblG := tblG_in 233 (by decide +kernel) rfl
theorem tw_235 : Cond.instanceMethod yX1_insertRule ∈ tblG := tblG_in 235 (by decide +kernel) rfl
theorem tw_236 : Cond.selects yX1_insertRule.cls yX1_insertRule yX1_insertRule ∈ tblG := tblG_in 236 (by decide +kernel) rfl
theorem tw_237 : Cond.code yX1_insertRule cX1_insertRule 4 none ∈ tblG := tblG_in 237 (by decide +kernel) rfl
theorem tw_238 : Cond.methodLink RX1 34 yX1_withBitInserted ∈ tblG := tblG_in 238 (by decide +kernel) rfl
theorem tw_239 : Cond.static yX1_withBitInserted ∈ tblG := tblG_in 239 (by decide +kernel) rfl
theorem tw_240 : Cond.code yX1_withBitInserted cX1_withBitInserted 4 (some .int) ∈ tblG := tblG_in 240 (by decide +kernel) rfl
theorem tw_258 : Cond.instanceMethod yX1_restrict ∈ tblG := tblG_in 258 (by decide +kernel) rfl
theorem tw_259 : Cond.selects yX1_restrict.cls yX1_restrict yX1_restrict ∈ tblG := tblG_in 259 (by decide +kernel) rfl
theorem tw_260 : Cond.code yX1_restrict cX1_restrict 7 none ∈ tblG := tblG_in 260 (by decide +kernel) rfl
theorem tw_261 : Cond.fieldLink RX1 42 "PolicyComparer$Policy" "FIRST_ROW" "[I" ∈ tblG := tblG_in 261 (by decide +kernel) rfl
theorem tw_368 : Cond.instanceMethod yX1_dropRule ∈ tblG := tblG_in 368 (by decide +kernel) rfl
theorem tw_369 : Cond.selects yX1_dropRule.cls yX1_dropRule yX1_dropRule ∈ tblG := tblG_in 369 (by decide +kernel) rfl
theorem tw_370 : Cond.code yX1_dropRule cX1_dropRule 3 none ∈ tblG := tblG_in 370 (by decide +kernel) rfl
theorem tw_371 : Cond.methodLink RX1 38 yX1_withBitDropped ∈ tblG := tblG_in 371 (by decide +kernel) rfl
theorem tw_372 : Cond.static yX1_withBitDropped ∈ tblG := tblG_in 372 (by decide +kernel) rfl
theorem tw_373 : Cond.code yX1_withBitDropped cX1_withBitDropped 3 (some .int) ∈ tblG := tblG_in 373 (by decide +kernel) rfl
theorem tw_379 : Cond.instanceMethod yX1_shiftRule ∈ tblG := tblG_in 379 (by decide +kernel) rfl
theorem tw_380 : Cond.selects yX1_shiftRule.cls yX1_shiftRule yX1_shiftRule ∈ tblG := tblG_in 380 (by decide +kernel) rfl
theorem tw_381 : Cond.code yX1_shiftRule cX1_shiftRule 5 none ∈ tblG := tblG_in 381 (by decide +kernel) rfl
theorem tw_383 : Cond.instanceMethod yX1_effectAt ∈ tblG := tblG_in 383 (by decide +kernel) rfl
theorem tw_384 : Cond.selects yX1_effectAt.cls yX1_effectAt yX1_effectAt ∈ tblG := tblG_in 384 (by decide +kernel) rfl
theorem tw_385 : Cond.code yX1_effectAt cX1_effectAt 2 (some .int) ∈ tblG := tblG_in 385 (by decide +kernel) rfl
theorem tw_391 : Cond.instanceMethod yX1_algorithm ∈ tblG := tblG_in 391 (by decide +kernel) rfl
theorem tw_392 : Cond.selects yX1_algorithm.cls yX1_algorithm yX1_algorithm ∈ tblG := tblG_in 392 (by decide +kernel) rfl
theorem tw_393 : Cond.code yX1_algorithm cX1_algorithm 1 (some .int) ∈ tblG := tblG_in 393 (by decide +kernel) rfl
theorem tw_407 : Cond.instanceMethod yX1_valuesAt ∈ tblG := tblG_in 407 (by decide +kernel) rfl
theorem tw_408 : Cond.selects yX1_valuesAt.cls yX1_valuesAt yX1_valuesAt ∈ tblG := tblG_in 408 (by decide +kernel) rfl
theorem tw_409 : Cond.code yX1_valuesAt cX1_valuesAt 6 (some .int) ∈ tblG := tblG_in 409 (by decide +kernel) rfl
theorem tw_416 : Cond.instanceMethod yX1_turnEffect ∈ tblG := tblG_in 416 (by decide +kernel) rfl
theorem tw_417 : Cond.selects yX1_turnEffect.cls yX1_turnEffect yX1_turnEffect ∈ tblG := tblG_in 417 (by decide +kernel) rfl
theorem tw_418 : Cond.code yX1_turnEffect cX1_turnEffect 2 none ∈ tblG := tblG_in 418 (by decide +kernel) rfl
theorem tw_467 : Cond.instanceMethod yX1_decisionOn ∈ tblG := tblG_in 467 (by decide +kernel) rfl
theorem tw_468 : Cond.selects yX1_decisionOn.cls yX1_decisionOn yX1_decisionOn ∈ tblG := tblG_in 468 (by decide +kernel) rfl
theorem tw_469 : Cond.code yX1_decisionOn cX1_decisionOn 2 (some .int) ∈ tblG := tblG_in 469 (by decide +kernel) rfl
theorem tw_470 : Cond.methodLink RX1 48 yX1_applying ∈ tblG := tblG_in 470 (by decide +kernel) rfl
theorem tw_471 : Cond.instanceMethod yX1_applying ∈ tblG := tblG_in 471 (by decide +kernel) rfl
theorem tw_472 : Cond.selects yX1_applying.cls yX1_applying yX1_applying ∈ tblG := tblG_in 472 (by decide +kernel) rfl
theorem tw_473 : Cond.code yX1_applying cX1_applying 2 (some .int) ∈ tblG := tblG_in 473 (by decide +kernel) rfl
theorem tw_474 : Cond.methodLink RX1 52 yX1_decisionAmong ∈ tblG := tblG_in 474 (by decide +kernel) rfl
theorem tw_475 : Cond.instanceMethod yX1_decisionAmong ∈ tblG := tblG_in 475 (by decide +kernel) rfl
theorem tw_476 : Cond.selects yX1_decisionAmong.cls yX1_decisionAmong yX1_decisionAmong ∈ tblG := tblG_in 476 (by decide +kernel) rfl
theorem tw_477 : Cond.code yX1_decisionAmong cX1_decisionAmong 3 (some .int) ∈ tblG := tblG_in 477 (by decide +kernel) rfl
theorem tw_478 : Cond.methodLink RX1 55 yJ6_lowestOneBit_0f7a4 ∈ tblG := tblG_in 478 (by decide +kernel) rfl
theorem tw_479 : Cond.static yJ6_lowestOneBit_0f7a4 ∈ tblG := tblG_in 479 (by decide +kernel) rfl
theorem tw_480 : Cond.code yJ6_lowestOneBit_0f7a4 cJ6_lowestOneBit_0f7a4 1 (some .int) ∈ tblG := tblG_in 480 (by decide +kernel) rfl
theorem tw_481 : Cond.methodLink RX1 60 yJ6_bitCount_0f7a4 ∈ tblG := tblG_in 481 (by decide +kernel) rfl
theorem tw_482 : Cond.static yJ6_bitCount_0f7a4 ∈ tblG := tblG_in 482 (by decide +kernel) rfl
theorem tw_483 : Cond.code yJ6_bitCount_0f7a4 cJ6_bitCount_0f7a4 1 (some .int) ∈ tblG := tblG_in 483 (by decide +kernel) rfl
theorem tw_484 : Cond.constant RJ6 265 1431655765 ∈ tblG := tblG_in 484 (by decide +kernel) rfl
theorem tw_485 : Cond.constant RJ6 266 858993459 ∈ tblG := tblG_in 485 (by decide +kernel) rfl
theorem tw_486 : Cond.constant RJ6 267 252645135 ∈ tblG := tblG_in 486 (by decide +kernel) rfl
theorem tw_487 : Cond.methodLink RX1 63 yX1_majority ∈ tblG := tblG_in 487 (by decide +kernel) rfl
theorem tw_488 : Cond.static yX1_majority ∈ tblG := tblG_in 488 (by decide +kernel) rfl
theorem tw_489 : Cond.code yX1_majority cX1_majority 2 (some .int) ∈ tblG := tblG_in 489 (by decide +kernel) rfl
theorem tw_581 : Cond.instanceMethod yX1_allRules ∈ tblG := tblG_in 581 (by decide +kernel) rfl
theorem tw_582 : Cond.selects yX1_allRules.cls yX1_allRules yX1_allRules ∈ tblG := tblG_in 582 (by decide +kernel) rfl
theorem tw_583 : Cond.code yX1_allRules cX1_allRules 1 (some .int) ∈ tblG := tblG_in 583 (by decide +kernel) rfl
theorem inX0 : ∀ w ∈ wsX00, w ∈ tblG := by decide +kernel
theorem inX1 : ∀ w ∈ wsX10, w ∈ tblG := by decide +kernel
theorem inX2 : ∀ w ∈ wsX20, w ∈ tblG := by decide +kernel
theorem inX3 : ∀ w ∈ wsX30, w ∈ tblG := by decide +kernel
theorem inX4 : ∀ w ∈ wsX40, w ∈ tblG := by decide +kernel
theorem inX5 : ∀ w ∈ wsX50, w ∈ tblG := by decide +kernel
theorem sw_out {x : Int32} (n : Nat) (hn : n < 2 ^ 31) (h : ∀ j : Nat, j < n → ¬ x = Int32.ofNat j) : x.toInt < 0 ∨ (n : Int) ≤ x.toInt := by
  rcases pk_ix x hn with q | q | ⟨j, q, e⟩
  · exact Or.inl (by simpa using Int32.lt_iff_toInt_lt.mp q)
  · exact Or.inr (by have := Int32.le_iff_toInt_le.mp q; rwa [nI_toInt hn] at this)
  · exact absurd e (h j q)
theorem sw3 (x : Int32) : x = 0 ∨ x = 1 ∨ x = 2 ∨ ((¬ x = 0 ∧ ¬ x = 1 ∧ ¬ x = 2) ∧ (x.toInt < 0 ∨ 2 < x.toInt)) := by
  by_cases h0 : x = 0 <;> by_cases h1 : x = 1 <;> by_cases h2 : x = 2 <;> simp only [h0, h1, h2, true_or, or_true, false_or, true_and, not_false_eq_true]
  rcases sw_out (x := x) 3 (by decide) (fun j hj => by rcases (show j = 0 ∨ j = 1 ∨ j = 2 by omega) with rfl | rfl | rfl <;> assumption) with q | q
  · exact Or.inl q
  · exact Or.inr (by omega)
theorem sw4 (x : Int32) : x = 0 ∨ x = 1 ∨ x = 2 ∨ x = 3 ∨ ((¬ x = 0 ∧ ¬ x = 1 ∧ ¬ x = 2 ∧ ¬ x = 3) ∧ (x.toInt < 0 ∨ 3 < x.toInt)) := by
  by_cases h0 : x = 0 <;> by_cases h1 : x = 1 <;> by_cases h2 : x = 2 <;> by_cases h3 : x = 3 <;> simp only [h0, h1, h2, h3, true_or, or_true, false_or, true_and, not_false_eq_true]
  rcases sw_out (x := x) 4 (by decide) (fun j hj => by rcases (show j = 0 ∨ j = 1 ∨ j = 2 ∨ j = 3 by omega) with rfl | rfl | rfl | rfl <;> assumption) with q | q
  · exact Or.inl q
  · exact Or.inr (by omega)
theorem kJ6_bitCount_0f7a4 : Ks yJ6_bitCount_0f7a4 cJ6_bitCount_0f7a4 1 (some .int) 1 := ⟨⟨tw_483, tw_48, by decide +kernel⟩, tw_482⟩
theorem kJ6_lowestOneBit_0f7a4 : Ks yJ6_lowestOneBit_0f7a4 cJ6_lowestOneBit_0f7a4 1 (some .int) 1 := ⟨⟨tw_480, tw_48, by decide +kernel⟩, tw_479⟩
theorem kX1_size : Kv yX1_size cX1_size 1 (some .int) 0 := ⟨⟨tw_233, tw_37, by decide +kernel⟩, tw_231, tw_232⟩
theorem kX1_algorithm : Kv yX1_algorithm cX1_algorithm 1 (some .int) 0 := ⟨⟨tw_393, tw_37, by decide +kernel⟩, tw_391, tw_392⟩
theorem kX1_use : Kv yX1_use cX1_use 2 none 1 := ⟨⟨tw_224, tw_37, by decide +kernel⟩, tw_222, tw_223⟩
theorem kX1_withBitInserted : Ks yX1_withBitInserted cX1_withBitInserted 4 (some .int) 3 := ⟨⟨tw_240, tw_37, by decide +kernel⟩, tw_239⟩
theorem kX1_withBitDropped : Ks yX1_withBitDropped cX1_withBitDropped 3 (some .int) 2 := ⟨⟨tw_373, tw_37, by decide +kernel⟩, tw_372⟩
theorem kX1_majority : Ks yX1_majority cX1_majority 2 (some .int) 2 := ⟨⟨tw_489, tw_37, by decide +kernel⟩, tw_488⟩
theorem kX1_insertRule : Kv yX1_insertRule cX1_insertRule 4 none 2 := ⟨⟨tw_237, tw_37, by decide +kernel⟩, tw_235, tw_236⟩
theorem kX1_dropRule : Kv yX1_dropRule cX1_dropRule 3 none 1 := ⟨⟨tw_370, tw_37, by decide +kernel⟩, tw_368, tw_369⟩
theorem kX1_shiftRule : Kv yX1_shiftRule cX1_shiftRule 5 none 2 := ⟨⟨tw_381, tw_37, by decide +kernel⟩, tw_379, tw_380⟩
theorem kX1_restrict : Kv yX1_restrict cX1_restrict 7 none 3 := ⟨⟨tw_260, tw_37, by decide +kernel⟩, tw_258, tw_259⟩
theorem kX1_valuesAt : Kv yX1_valuesAt cX1_valuesAt 6 (some .int) 2 := ⟨⟨tw_409, tw_37, by decide +kernel⟩, tw_407, tw_408⟩
theorem kX1_turnEffect : Kv yX1_turnEffect cX1_turnEffect 2 none 1 := ⟨⟨tw_418, tw_37, by decide +kernel⟩, tw_416, tw_417⟩
theorem kX1_effectAt : Kv yX1_effectAt cX1_effectAt 2 (some .int) 1 := ⟨⟨tw_385, tw_37, by decide +kernel⟩, tw_383, tw_384⟩
theorem kX1_allRules : Kv yX1_allRules cX1_allRules 1 (some .int) 0 := ⟨⟨tw_583, tw_37, by decide +kernel⟩, tw_581, tw_582⟩
theorem kX1_applying : Kv yX1_applying cX1_applying 2 (some .int) 1 := ⟨⟨tw_473, tw_37, by decide +kernel⟩, tw_471, tw_472⟩
theorem kX1_decisionAmong : Kv yX1_decisionAmong cX1_decisionAmong 3 (some .int) 1 := ⟨⟨tw_477, tw_37, by decide +kernel⟩, tw_475, tw_476⟩
theorem kX1_decisionOn : Kv yX1_decisionOn cX1_decisionOn 2 (some .int) 1 := ⟨⟨tw_469, tw_37, by decide +kernel⟩, tw_467, tw_468⟩
end
section
def wp_J6_bitCount_0f7a4 (x0 : Int32) (st : St) (Q : Int32 → St → Prop) : Prop :=
  ∀ x0_1 : Int32, x0_1 = x0 - ((ushr x0 (1 : Int32)) &&& (1431655765 : Int32)) → ∀ x0_2 : Int32, x0_2 = (x0_1 &&& (858993459 : Int32)) + ((ushr x0_1 (2 : Int32)) &&& (858993459 : Int32)) → ∀ x0_3 : Int32, x0_3 = (x0_2 + (ushr x0_2 (4 : Int32))) &&& (252645135 : Int32) → ∀ x0_4 : Int32, x0_4 = x0_3 + (ushr x0_3 (8 : Int32)) → ∀ x0_5 : Int32, x0_5 = x0_4 + (ushr x0_4 (16 : Int32)) → Q (x0_5 &&& (63 : Int32)) st

def wp_J6_lowestOneBit_0f7a4 (x0 : Int32) (st : St) (Q : Int32 → St → Prop) : Prop :=
  Q (x0 &&& (-x0)) st

def wp_X1_size (k0 : Nat) (st : St) (Q : Int32 → St → Prop) : Prop :=
  Q (st k0 1) st

def wp_X1_algorithm (k0 : Nat) (st : St) (Q : Int32 → St → Prop) : Prop :=
  Q (st k0 2) st

def wp_X1_use (k0 : Nat) (x1 : Int32) (st : St) (Q : St → Prop) : Prop :=
  Q (up2 st k0 2 x1)

def wp_X1_withBitInserted (x0 : Int32) (x1 : Int32) (x2 : Int32) (st : St) (Q : Int32 → St → Prop) : Prop :=
  ∀ x3_1 : Int32, x3_1 = ((1 : Int32) <<< (x1 &&& (31 : Int32))) - (1 : Int32) → Q (((x0 &&& x3_1) ||| (x2 <<< (x1 &&& (31 : Int32)))) ||| ((x0 &&& (x3_1 ^^^ (-1 : Int32))) <<< ((1 : Int32) &&& (31 : Int32)))) st

def wp_X1_withBitDropped (x0 : Int32) (x1 : Int32) (st : St) (Q : Int32 → St → Prop) : Prop :=
  ∀ x2_1 : Int32, x2_1 = ((1 : Int32) <<< (x1 &&& (31 : Int32))) - (1 : Int32) → Q ((x0 &&& x2_1) ||| ((x0 >>> ((1 : Int32) &&& (31 : Int32))) &&& (x2_1 ^^^ (-1 : Int32)))) st

def wp_X1_majority (x0 : Int32) (x1 : Int32) (st : St) (Q : Int32 → St → Prop) : Prop :=
  (x0 = x1 → (Q (3 : Int32) st)) ∧ (¬ x0 = x1 → ((x0 ≤ x1 → (Q (1 : Int32) st)) ∧ (¬ x0 ≤ x1 → (Q (0 : Int32) st))))

def wp_X1_insertRule (k0 : Nat) (x1 : Int32) (x2 : Int32) (st : St) (Q : St → Prop) : Prop :=
  ∀ (P2 : Int32 → St → Prop), 
  ∀ (P55 : Int32 → Int32 → Int32 → Int32 → St → Prop), 
  (∀ (x3 : Int32) (st : St), (((24 : Int32) ≤ x3 → (vp_in (24 : Int32) 25 ∧ ((x2 = (1 : Int32) → (P55 (24 : Int32) (st (k0 + 1) (24 : Int32).toNatClampNeg) x1 (1 : Int32) st)) ∧ (¬ x2 = (1 : Int32) → (P55 (24 : Int32) (st (k0 + 1) (24 : Int32).toNatClampNeg) x1 (0 : Int32) st))))) ∧ (¬ (24 : Int32) ≤ x3 → (vp_in x3 25 ∧ (wp_X1_withBitInserted (st (k0 + 1) x3.toNatClampNeg) x1 (1 : Int32) st (fun r_3 s_2 => vp_in x3 25 ∧ (∀ x3_4 : Int32, x3_4 = x3 + (1 : Int32) → P2 x3_4 (up2 s_2 (k0 + 1) x3.toNatClampNeg r_3))))))) → P2 x3 st) →
  (∀ (y1 : Int32) (y2 : Int32) (y3 : Int32) (y4 : Int32) (st : St), (wp_X1_withBitInserted y2 y3 y4 st (fun r_7 s_6 => vp_in y1 25 ∧ (Q (up2 (up2 s_6 (k0 + 1) y1.toNatClampNeg r_7) k0 1 (((up2 s_6 (k0 + 1) y1.toNatClampNeg r_7) k0 1) + (1 : Int32)))))) → P55 y1 y2 y3 y4 st) →
  P2 (0 : Int32) st

def wp_X1_dropRule (k0 : Nat) (x1 : Int32) (st : St) (Q : St → Prop) : Prop :=
  ∀ (P2 : Int32 → St → Prop), 
  (∀ (x2 : Int32) (st : St), (((25 : Int32) ≤ x2 → (Q (up2 st k0 1 ((st k0 1) - (1 : Int32))))) ∧ (¬ (25 : Int32) ≤ x2 → (vp_in x2 25 ∧ (wp_X1_withBitDropped (st (k0 + 1) x2.toNatClampNeg) x1 st (fun r_2 s_1 => vp_in x2 25 ∧ (∀ x2_3 : Int32, x2_3 = x2 + (1 : Int32) → P2 x2_3 (up2 s_1 (k0 + 1) x2.toNatClampNeg r_2))))))) → P2 x2 st) →
  P2 (0 : Int32) st

def wp_X1_shiftRule (k0 : Nat) (x1 : Int32) (x2 : Int32) (st : St) (Q : St → Prop) : Prop :=
  ∀ (P2 : Int32 → St → Prop), 
  (∀ (x3 : Int32) (st : St), (((25 : Int32) ≤ x3 → (Q st)) ∧ (¬ (25 : Int32) ≤ x3 → (vp_in x3 25 ∧ (∀ x4_1 : Int32, x4_1 = ((st (k0 + 1) x3.toNatClampNeg) >>> (x1 &&& (31 : Int32))) &&& (1 : Int32) → vp_in x3 25 ∧ (wp_X1_withBitDropped (st (k0 + 1) x3.toNatClampNeg) x1 st (fun r_3 s_2 => wp_X1_withBitInserted r_3 x2 x4_1 s_2 (fun r_5 s_4 => vp_in x3 25 ∧ (∀ x3_6 : Int32, x3_6 = x3 + (1 : Int32) → P2 x3_6 (up2 s_4 (k0 + 1) x3.toNatClampNeg r_5))))))))) → P2 x3 st) →
  P2 (0 : Int32) st

def wp_X1_restrict (k0 : Nat) (x1 : Int32) (x2 : Int32) (x3 : Int32) (st : St) (Q : St → Prop) : Prop :=
  ∀ (P10 : Int32 → Int32 → St → Prop), 
  (∀ (x4 : Int32) (x5 : Int32) (st : St), (vp_in x2 4 ∧ (((vcF x2.toNatClampNeg) ≤ x5 → (Q st)) ∧ (¬ (vcF x2.toNatClampNeg) ≤ x5 → (∀ x6_1 : Int32, x6_1 = (x3 >>> (x5 &&& (31 : Int32))) &&& (1 : Int32) → vp_in (x4 + x5) 25 ∧ (vp_in (x4 + x5) 25 ∧ (∀ x5_2 : Int32, x5_2 = x5 + (1 : Int32) → P10 x4 x5_2 (up2 st (k0 + 1) (x4 + x5).toNatClampNeg (((st (k0 + 1) (x4 + x5).toNatClampNeg) &&& (((1 : Int32) <<< (x1 &&& (31 : Int32))) ^^^ (-1 : Int32))) ||| (x6_1 <<< (x1 &&& (31 : Int32))))))))))) → P10 x4 x5 st) →
  vp_in x2 4 ∧ (∀ x4_4 : Int32, x4_4 = frF x2.toNatClampNeg → P10 x4_4 (0 : Int32) st)

def wp_X1_valuesAt (k0 : Nat) (x1 : Int32) (x2 : Int32) (st : St) (Q : Int32 → St → Prop) : Prop :=
  ∀ (P12 : Int32 → Int32 → Int32 → St → Prop), 
  (∀ (x3 : Int32) (x4 : Int32) (x5 : Int32) (st : St), (vp_in x2 4 ∧ (((vcF x2.toNatClampNeg) ≤ x5 → (Q x4 st)) ∧ (¬ (vcF x2.toNatClampNeg) ≤ x5 → (vp_in (x3 + x5) 25 ∧ (∀ x4_1 : Int32, x4_1 = x4 ||| ((((st (k0 + 1) (x3 + x5).toNatClampNeg) >>> (x1 &&& (31 : Int32))) &&& (1 : Int32)) <<< (x5 &&& (31 : Int32))) → ∀ x5_2 : Int32, x5_2 = x5 + (1 : Int32) → P12 x3 x4_1 x5_2 st))))) → P12 x3 x4 x5 st) →
  vp_in x2 4 ∧ (∀ x3_4 : Int32, x3_4 = frF x2.toNatClampNeg → P12 x3_4 (0 : Int32) (0 : Int32) st)

def wp_X1_turnEffect (k0 : Nat) (x1 : Int32) (st : St) (Q : St → Prop) : Prop :=
  vp_in (24 : Int32) 25 ∧ (vp_in (24 : Int32) 25 ∧ (Q (up2 st (k0 + 1) (24 : Int32).toNatClampNeg ((st (k0 + 1) (24 : Int32).toNatClampNeg) ^^^ ((1 : Int32) <<< (x1 &&& (31 : Int32)))))))

def wp_X1_effectAt (k0 : Nat) (x1 : Int32) (st : St) (Q : Int32 → St → Prop) : Prop :=
  vp_in (24 : Int32) 25 ∧ (((((st (k0 + 1) (24 : Int32).toNatClampNeg) >>> (x1 &&& (31 : Int32))) &&& (1 : Int32)) = 0 → (Q (0 : Int32) st)) ∧ (¬ (((st (k0 + 1) (24 : Int32).toNatClampNeg) >>> (x1 &&& (31 : Int32))) &&& (1 : Int32)) = 0 → (Q (1 : Int32) st)))

def wp_X1_allRules (k0 : Nat) (st : St) (Q : Int32 → St → Prop) : Prop :=
  Q (((1 : Int32) <<< ((st k0 1) &&& (31 : Int32))) - (1 : Int32)) st

def wp_X1_applying (k0 : Nat) (x1 : Int32) (st : St) (Q : Int32 → St → Prop) : Prop :=
  vp_in ((0 : Int32) + ((x1 >>> ((7 : Int32) &&& (31 : Int32))) &&& (7 : Int32))) 25 ∧ (vp_in ((8 : Int32) + ((x1 >>> ((5 : Int32) &&& (31 : Int32))) &&& (3 : Int32))) 25 ∧ (vp_in ((12 : Int32) + ((x1 >>> ((2 : Int32) &&& (31 : Int32))) &&& (7 : Int32))) 25 ∧ (vp_in ((20 : Int32) + (x1 &&& (3 : Int32))) 25 ∧ (Q ((((st (k0 + 1) ((0 : Int32) + ((x1 >>> ((7 : Int32) &&& (31 : Int32))) &&& (7 : Int32))).toNatClampNeg) &&& (st (k0 + 1) ((8 : Int32) + ((x1 >>> ((5 : Int32) &&& (31 : Int32))) &&& (3 : Int32))).toNatClampNeg)) &&& (st (k0 + 1) ((12 : Int32) + ((x1 >>> ((2 : Int32) &&& (31 : Int32))) &&& (7 : Int32))).toNatClampNeg)) &&& (st (k0 + 1) ((20 : Int32) + (x1 &&& (3 : Int32))).toNatClampNeg)) st))))

def wp_X1_decisionAmong (k0 : Nat) (x1 : Int32) (st : St) (Q : Int32 → St → Prop) : Prop :=
  (x1 = 0 → (Q (2 : Int32) st)) ∧ (¬ x1 = 0 → (vp_in (24 : Int32) 25 ∧ (∀ x2_1 : Int32, x2_1 = x1 &&& (st (k0 + 1) (24 : Int32).toNatClampNeg) → ((st k0 2) = (0 : Int32) → (wp_J6_lowestOneBit_0f7a4 x1 st (fun r_4 s_3 => ((x2_1 &&& r_4) = 0 → (Q (0 : Int32) s_3)) ∧ (¬ (x2_1 &&& r_4) = 0 → (Q (1 : Int32) s_3))))) ∧ ((st k0 2) = (1 : Int32) → ((x2_1 = 0 → (Q (0 : Int32) st)) ∧ (¬ x2_1 = 0 → (Q (1 : Int32) st)))) ∧ ((st k0 2) = (2 : Int32) → ((x2_1 = x1 → (Q (1 : Int32) st)) ∧ (¬ x2_1 = x1 → (Q (0 : Int32) st)))) ∧ ((st k0 2) = (3 : Int32) → (wp_J6_bitCount_0f7a4 x1 st (fun r_9 s_8 => (r_9 ≤ (1 : Int32) → ((x2_1 = 0 → (Q (0 : Int32) s_8)) ∧ (¬ x2_1 = 0 → (Q (1 : Int32) s_8)))) ∧ (¬ r_9 ≤ (1 : Int32) → (Q (3 : Int32) s_8))))) ∧ ((¬ (st k0 2) = (0 : Int32) ∧ ¬ (st k0 2) = (1 : Int32) ∧ ¬ (st k0 2) = (2 : Int32) ∧ ¬ (st k0 2) = (3 : Int32)) → (wp_J6_bitCount_0f7a4 (x1 &&& (x2_1 ^^^ (-1 : Int32))) st (fun r_13 s_12 => wp_J6_bitCount_0f7a4 x2_1 s_12 (fun r_15 s_14 => wp_X1_majority r_13 r_15 s_14 (fun r_17 s_16 => Q r_17 s_16))))))))

def wp_X1_decisionOn (k0 : Nat) (x1 : Int32) (st : St) (Q : Int32 → St → Prop) : Prop :=
  wp_X1_applying k0 x1 st (fun r_2 s_1 => wp_X1_decisionAmong k0 r_2 s_1 (fun r_4 s_3 => Q r_4 s_3))
end
section
set_option maxHeartbeats 4000000 in
set_option maxRecDepth 100000 in
theorem c_J6_bitCount_0f7a4 (l : Launch) (G : Gp) (hO : gOK G) (hwin : ∀ k, 0 ≤ k → k < 17 → k ∈ gks G) {x0 : Int32}  {st : St} {Q : Int32 → St → Prop} (hw : wp_J6_bitCount_0f7a4 x0 st Q) : MI l G yJ6_bitCount_0f7a4 cJ6_bitCount_0f7a4 1 (some .int) { frames := 0, cells := 0, slots := 0, locals := 0 } [.int x0] st Q := by
  refine MI.of (own := RJ6) (lo := 0) (hi := 17) hO hwin (by decide) rfl (Nat.le_of_ble_eq_true rfl) (fun p e s m args below meth c C hr hlk => ?_)
  refine g_lv (lv' := [(0, .int x0)]) rfl ?_
  unfold wp_J6_bitCount_0f7a4 at hw
  refine g_iload_n C 0 dJ6_bitCount_0f7a4_0 rfl rfl ?_
  refine g_iload_n C 0 dJ6_bitCount_0f7a4_1 rfl rfl ?_
  refine g_iconst C (1 : Int32) dJ6_bitCount_0f7a4_2 (by decide) ?_
  refine g_iushr C dJ6_bitCount_0f7a4_3 ?_
  refine g_ldcw C (1431655765 : Int32) tw_484 dJ6_bitCount_0f7a4_4 ?_
  refine g_iand C dJ6_bitCount_0f7a4_7 ?_
  refine g_isub C dJ6_bitCount_0f7a4_8 ?_
  refine g_topi (fun x0_1 ex0_1 => ?_)
  replace hw := hw x0_1 ex0_1
  refine g_istore_n C dJ6_bitCount_0f7a4_9 rfl (by decide) (lv' := [(0, .int x0_1)]) rfl ?_
  refine g_iload_n C 0 dJ6_bitCount_0f7a4_10 rfl rfl ?_
  refine g_ldcw C (858993459 : Int32) tw_485 dJ6_bitCount_0f7a4_11 ?_
  refine g_iand C dJ6_bitCount_0f7a4_14 ?_
  refine g_iload_n C 0 dJ6_bitCount_0f7a4_15 rfl rfl ?_
  refine g_iconst C (2 : Int32) dJ6_bitCount_0f7a4_16 (by decide) ?_
  refine g_iushr C dJ6_bitCount_0f7a4_17 ?_
  refine g_ldcw C (858993459 : Int32) tw_485 dJ6_bitCount_0f7a4_18 ?_
  refine g_iand C dJ6_bitCount_0f7a4_21 ?_
  refine g_iadd C dJ6_bitCount_0f7a4_22 ?_
  refine g_topi (fun x0_2 ex0_2 => ?_)
  replace hw := hw x0_2 ex0_2
  refine g_istore_n C dJ6_bitCount_0f7a4_23 rfl (by decide) (lv' := [(0, .int x0_2)]) rfl ?_
  refine g_iload_n C 0 dJ6_bitCount_0f7a4_24 rfl rfl ?_
  refine g_iload_n C 0 dJ6_bitCount_0f7a4_25 rfl rfl ?_
  refine g_iconst C (4 : Int32) dJ6_bitCount_0f7a4_26 (by decide) ?_
  refine g_iushr C dJ6_bitCount_0f7a4_27 ?_
  refine g_iadd C dJ6_bitCount_0f7a4_28 ?_
  refine g_ldcw C (252645135 : Int32) tw_486 dJ6_bitCount_0f7a4_29 ?_
  refine g_iand C dJ6_bitCount_0f7a4_32 ?_
  refine g_topi (fun x0_3 ex0_3 => ?_)
  replace hw := hw x0_3 ex0_3
  refine g_istore_n C dJ6_bitCount_0f7a4_33 rfl (by decide) (lv' := [(0, .int x0_3)]) rfl ?_
  refine g_iload_n C 0 dJ6_bitCount_0f7a4_34 rfl rfl ?_
  refine g_iload_n C 0 dJ6_bitCount_0f7a4_35 rfl rfl ?_
  refine g_bipush C (8 : Int32) dJ6_bitCount_0f7a4_36 (by decide) ?_
  refine g_iushr C dJ6_bitCount_0f7a4_38 ?_
  refine g_iadd C dJ6_bitCount_0f7a4_39 ?_
  refine g_topi (fun x0_4 ex0_4 => ?_)
  replace hw := hw x0_4 ex0_4
  refine g_istore_n C dJ6_bitCount_0f7a4_40 rfl (by decide) (lv' := [(0, .int x0_4)]) rfl ?_
  refine g_iload_n C 0 dJ6_bitCount_0f7a4_41 rfl rfl ?_
  refine g_iload_n C 0 dJ6_bitCount_0f7a4_42 rfl rfl ?_
  refine g_bipush C (16 : Int32) dJ6_bitCount_0f7a4_43 (by decide) ?_
  refine g_iushr C dJ6_bitCount_0f7a4_45 ?_
  refine g_iadd C dJ6_bitCount_0f7a4_46 ?_
  refine g_topi (fun x0_5 ex0_5 => ?_)
  replace hw := hw x0_5 ex0_5
  refine g_istore_n C dJ6_bitCount_0f7a4_47 rfl (by decide) (lv' := [(0, .int x0_5)]) rfl ?_
  refine g_iload_n C 0 dJ6_bitCount_0f7a4_48 rfl rfl ?_
  refine g_bipush C (63 : Int32) dJ6_bitCount_0f7a4_49 (by decide) ?_
  refine g_iand C dJ6_bitCount_0f7a4_51 ?_
  exact g_iret C hr hlk hw dJ6_bitCount_0f7a4_52

set_option maxHeartbeats 4000000 in
set_option maxRecDepth 100000 in
theorem c_J6_lowestOneBit_0f7a4 (l : Launch) (G : Gp) (hO : gOK G) (hwin : ∀ k, 0 ≤ k → k < 17 → k ∈ gks G) {x0 : Int32}  {st : St} {Q : Int32 → St → Prop} (hw : wp_J6_lowestOneBit_0f7a4 x0 st Q) : MI l G yJ6_lowestOneBit_0f7a4 cJ6_lowestOneBit_0f7a4 1 (some .int) { frames := 0, cells := 0, slots := 0, locals := 0 } [.int x0] st Q := by
  refine MI.of (own := RJ6) (lo := 0) (hi := 17) hO hwin (by decide) rfl (Nat.le_of_ble_eq_true rfl) (fun p e s m args below meth c C hr hlk => ?_)
  refine g_lv (lv' := [(0, .int x0)]) rfl ?_
  unfold wp_J6_lowestOneBit_0f7a4 at hw
  refine g_iload_n C 0 dJ6_lowestOneBit_0f7a4_0 rfl rfl ?_
  refine g_iload_n C 0 dJ6_lowestOneBit_0f7a4_1 rfl rfl ?_
  refine g_ineg C dJ6_lowestOneBit_0f7a4_2 ?_
  refine g_iand C dJ6_lowestOneBit_0f7a4_3 ?_
  exact g_iret C hr hlk hw dJ6_lowestOneBit_0f7a4_4

set_option maxHeartbeats 4000000 in
set_option maxRecDepth 100000 in
theorem c_X1_size (l : Launch) (G : Gp) (hO : gOK G) (hwin : ∀ k, 0 ≤ k → k < 17 → k ∈ gks G) {k0 : Nat} (hk0 : isPol k0) {st : St} {Q : Int32 → St → Prop} (hw : wp_X1_size k0 st Q) : MI l G yX1_size cX1_size 1 (some .int) { frames := 0, cells := 0, slots := 0, locals := 0 } [.ref (gh G k0)] st Q := by
  refine MI.of (own := RX1) (lo := 0) (hi := 17) hO hwin (by decide) rfl (Nat.le_of_ble_eq_true rfl) (fun p e s m args below meth c C hr hlk => ?_)
  refine g_lv (lv' := [(0, .ref (gh G k0))]) rfl ?_
  unfold wp_X1_size at hw
  refine g_aload_n C 0 dX1_size_0 rfl rfl ?_
  refine g_get C inX1 (C.pol hk0) (isPol.cell hk0 G _) rfl 1 (by decide) tw_64 rfl dX1_size_1 ?_
  exact g_iret C hr hlk hw dX1_size_4

set_option maxHeartbeats 4000000 in
set_option maxRecDepth 100000 in
theorem c_X1_algorithm (l : Launch) (G : Gp) (hO : gOK G) (hwin : ∀ k, 0 ≤ k → k < 17 → k ∈ gks G) {k0 : Nat} (hk0 : isPol k0) {st : St} {Q : Int32 → St → Prop} (hw : wp_X1_algorithm k0 st Q) : MI l G yX1_algorithm cX1_algorithm 1 (some .int) { frames := 0, cells := 0, slots := 0, locals := 0 } [.ref (gh G k0)] st Q := by
  refine MI.of (own := RX1) (lo := 0) (hi := 17) hO hwin (by decide) rfl (Nat.le_of_ble_eq_true rfl) (fun p e s m args below meth c C hr hlk => ?_)
  refine g_lv (lv' := [(0, .ref (gh G k0))]) rfl ?_
  unfold wp_X1_algorithm at hw
  refine g_aload_n C 0 dX1_algorithm_0 rfl rfl ?_
  refine g_get C inX1 (C.pol hk0) (isPol.cell hk0 G _) rfl 2 (by decide) tw_65 rfl dX1_algorithm_1 ?_
  exact g_iret C hr hlk hw dX1_algorithm_4

set_option maxHeartbeats 4000000 in
set_option maxRecDepth 100000 in
theorem c_X1_use (l : Launch) (G : Gp) (hO : gOK G) (hwin : ∀ k, 0 ≤ k → k < 17 → k ∈ gks G) {k0 : Nat} {x1 : Int32} (hk0 : isPol k0) {st : St} {Q : St → Prop} (hw : wp_X1_use k0 x1 st Q) : MV l G yX1_use cX1_use 2 { frames := 0, cells := 0, slots := 0, locals := 0 } [.ref (gh G k0), .int x1] st Q := by
  refine MV.of (own := RX1) (lo := 0) (hi := 17) hO hwin (by decide) rfl (Nat.le_of_ble_eq_true rfl) (fun p e s m args below meth c C hr hlk => ?_)
  refine g_lv (lv' := [(0, .ref (gh G k0)), (1, .int x1)]) rfl ?_
  unfold wp_X1_use at hw
  refine g_aload_n C 0 dX1_use_0 rfl rfl ?_
  refine g_iload_n C 1 dX1_use_1 rfl rfl ?_
  refine g_put (ty := .int) x1 C inX1 tyX1_ok nmX1 (C.pol hk0) (isPol.cell hk0 G _) rfl 2 (by decide) tw_65 rfl (by decide +kernel) rfl rfl (Nat.le_of_ble_eq_true rfl) (isPol.cell hk0 G _) dX1_use_2 ?_
  exact g_vret C hr hlk hw dX1_use_5

set_option maxHeartbeats 4000000 in
set_option maxRecDepth 100000 in
theorem c_X1_withBitInserted (l : Launch) (G : Gp) (hO : gOK G) (hwin : ∀ k, 0 ≤ k → k < 17 → k ∈ gks G) {x0 : Int32} {x1 : Int32} {x2 : Int32}  {st : St} {Q : Int32 → St → Prop} (hw : wp_X1_withBitInserted x0 x1 x2 st Q) : MI l G yX1_withBitInserted cX1_withBitInserted 4 (some .int) { frames := 0, cells := 0, slots := 0, locals := 0 } [.int x0, .int x1, .int x2] st Q := by
  refine MI.of (own := RX1) (lo := 0) (hi := 17) hO hwin (by decide) rfl (Nat.le_of_ble_eq_true rfl) (fun p e s m args below meth c C hr hlk => ?_)
  refine g_lv (lv' := [(0, .int x0), (1, .int x1), (2, .int x2)]) rfl ?_
  unfold wp_X1_withBitInserted at hw
  refine g_iconst C (1 : Int32) dX1_withBitInserted_0 (by decide) ?_
  refine g_iload_n C 1 dX1_withBitInserted_1 rfl rfl ?_
  refine g_ishl C dX1_withBitInserted_2 ?_
  refine g_iconst C (1 : Int32) dX1_withBitInserted_3 (by decide) ?_
  refine g_isub C dX1_withBitInserted_4 ?_
  refine g_topi (fun x3_1 ex3_1 => ?_)
  replace hw := hw x3_1 ex3_1
  refine g_istore_n C dX1_withBitInserted_5 rfl (by decide) (lv' := [(3, .int x3_1), (0, .int x0), (1, .int x1), (2, .int x2)]) rfl ?_
  refine g_iload_n C 1 dX1_withBitInserted_6 rfl rfl ?_
  refine g_iload_n C 0 dX1_withBitInserted_7 rfl rfl ?_
  refine g_iand C dX1_withBitInserted_8 ?_
  refine g_iload_n C 3 dX1_withBitInserted_9 rfl rfl ?_
  refine g_iload_n C 2 dX1_withBitInserted_10 rfl rfl ?_
  refine g_ishl C dX1_withBitInserted_11 ?_
  refine g_ior C dX1_withBitInserted_12 ?_
  refine g_iload_n C 1 dX1_withBitInserted_13 rfl rfl ?_
  refine g_iload_n C 0 dX1_withBitInserted_14 rfl rfl ?_
  refine g_iconst C (-1 : Int32) dX1_withBitInserted_15 (by decide) ?_
  refine g_ixor C dX1_withBitInserted_16 ?_
  refine g_iand C dX1_withBitInserted_17 ?_
  refine g_iconst C (1 : Int32) dX1_withBitInserted_18 (by decide) ?_
  refine g_ishl C dX1_withBitInserted_19 ?_
  refine g_ior C dX1_withBitInserted_20 ?_
  exact g_iret C hr hlk hw dX1_withBitInserted_21

set_option maxHeartbeats 4000000 in
set_option maxRecDepth 100000 in
theorem c_X1_withBitDropped (l : Launch) (G : Gp) (hO : gOK G) (hwin : ∀ k, 0 ≤ k → k < 17 → k ∈ gks G) {x0 : Int32} {x1 : Int32}  {st : St} {Q : Int32 → St → Prop} (hw : wp_X1_withBitDropped x0 x1 st Q) : MI l G yX1_withBitDropped cX1_withBitDropped 3 (some .int) { frames := 0, cells := 0, slots := 0, locals := 0 } [.int x0, .int x1] st Q := by
  refine MI.of (own := RX1) (lo := 0) (hi := 17) hO hwin (by decide) rfl (Nat.le_of_ble_eq_true rfl) (fun p e s m args below meth c C hr hlk => ?_)
  refine g_lv (lv' := [(0, .int x0), (1, .int x1)]) rfl ?_
  unfold wp_X1_withBitDropped at hw
  refine g_iconst C (1 : Int32) dX1_withBitDropped_0 (by decide) ?_
  refine g_iload_n C 1 dX1_withBitDropped_1 rfl rfl ?_
  refine g_ishl C dX1_withBitDropped_2 ?_
  refine g_iconst C (1 : Int32) dX1_withBitDropped_3 (by decide) ?_
  refine g_isub C dX1_withBitDropped_4 ?_
  refine g_topi (fun x2_1 ex2_1 => ?_)
  replace hw := hw x2_1 ex2_1
  refine g_istore_n C dX1_withBitDropped_5 rfl (by decide) (lv' := [(2, .int x2_1), (0, .int x0), (1, .int x1)]) rfl ?_
  refine g_iload_n C 1 dX1_withBitDropped_6 rfl rfl ?_
  refine g_iload_n C 0 dX1_withBitDropped_7 rfl rfl ?_
  refine g_iand C dX1_withBitDropped_8 ?_
  refine g_iload_n C 1 dX1_withBitDropped_9 rfl rfl ?_
  refine g_iconst C (1 : Int32) dX1_withBitDropped_10 (by decide) ?_
  refine g_ishr C dX1_withBitDropped_11 ?_
  refine g_iload_n C 0 dX1_withBitDropped_12 rfl rfl ?_
  refine g_iconst C (-1 : Int32) dX1_withBitDropped_13 (by decide) ?_
  refine g_ixor C dX1_withBitDropped_14 ?_
  refine g_iand C dX1_withBitDropped_15 ?_
  refine g_ior C dX1_withBitDropped_16 ?_
  exact g_iret C hr hlk hw dX1_withBitDropped_17

set_option maxHeartbeats 4000000 in
set_option maxRecDepth 100000 in
theorem c_X1_majority (l : Launch) (G : Gp) (hO : gOK G) (hwin : ∀ k, 0 ≤ k → k < 17 → k ∈ gks G) {x0 : Int32} {x1 : Int32}  {st : St} {Q : Int32 → St → Prop} (hw : wp_X1_majority x0 x1 st Q) : MI l G yX1_majority cX1_majority 2 (some .int) { frames := 0, cells := 0, slots := 0, locals := 0 } [.int x0, .int x1] st Q := by
  refine MI.of (own := RX1) (lo := 0) (hi := 17) hO hwin (by decide) rfl (Nat.le_of_ble_eq_true rfl) (fun p e s m args below meth c C hr hlk => ?_)
  refine g_lv (lv' := [(0, .int x0), (1, .int x1)]) rfl ?_
  unfold wp_X1_majority at hw
  refine g_iload_n C 0 dX1_majority_0 rfl rfl ?_
  refine g_iload_n C 1 dX1_majority_1 rfl rfl ?_
  refine g_icmp_ne C 7 dX1_majority_2 (by decide) (fun c_2 => ?_) (fun c_2 => ?_)
  · replace hw := hw.2 c_2
    refine g_iload_n C 0 dX1_majority_7 rfl rfl ?_
    refine g_iload_n C 1 dX1_majority_8 rfl rfl ?_
    refine g_icmp_le C 16 dX1_majority_9 (by decide) (fun c_1 => ?_) (fun c_1 => ?_)
    · replace hw := hw.1 c_1
      refine g_iconst C (1 : Int32) dX1_majority_16 (by decide) ?_
      exact g_iret C hr hlk hw dX1_majority_17
    · replace hw := hw.2 c_1
      refine g_iconst C (0 : Int32) dX1_majority_12 (by decide) ?_
      refine g_goto C 17 dX1_majority_13 (by decide) ?_
      exact g_iret C hr hlk hw dX1_majority_17
  · replace hw := hw.1 c_2
    refine g_iconst C (3 : Int32) dX1_majority_5 (by decide) ?_
    exact g_iret C hr hlk hw dX1_majority_6

set_option maxHeartbeats 4000000 in
set_option maxRecDepth 100000 in
theorem c_X1_insertRule (l : Launch) (G : Gp) (hO : gOK G) (hwin : ∀ k, 0 ≤ k → k < 17 → k ∈ gks G) {k0 : Nat} {x1 : Int32} {x2 : Int32} (hk0 : isPol k0) {st : St} {Q : St → Prop} (hw : wp_X1_insertRule k0 x1 x2 st Q) : MV l G yX1_insertRule cX1_insertRule 4 { frames := 1, cells := 0, slots := 0, locals := 23 } [.ref (gh G k0), .int x1, .int x2] st Q := by
  refine MV.of (own := RX1) (lo := 0) (hi := 17) hO hwin (by decide) rfl (Nat.le_of_ble_eq_true rfl) (fun p e s m args below meth c C hr hlk => ?_)
  refine g_lv (lv' := [(0, .ref (gh G k0)), (1, .int x1), (2, .int x2)]) rfl ?_
  unfold wp_X1_insertRule at hw
  obtain ⟨P2, hP2⟩ : ∃ P : Int32 → St → Prop, P = fun x3 st => WG p l e ({ frames := 1, cells := 0, slots := 0, locals := 23 } : Room) s m args below meth c 0 0 (MQ below (va_Qv Q (gB G) (gA G)) args s 0 0 (gA G)) G 4 2 [(0, .ref (gh G k0)), (1, .int x1), (2, .int x2), (3, .int x3)] [] st := ⟨_, rfl⟩
  obtain ⟨P55, hP55⟩ : ∃ P : Int32 → Int32 → Int32 → Int32 → St → Prop, P = fun y1 y2 y3 y4 st => WG p l e ({ frames := 1, cells := 0, slots := 0, locals := 23 } : Room) s m args below meth c 0 0 (MQ below (va_Qv Q (gB G) (gA G)) args s 0 0 (gA G)) G 4 55 [(0, .ref (gh G k0)), (1, .int x1), (2, .int x2)] [.int y4, .int y3, .int y2, .int y1, .ref (gh G (k0 + 1))] st := ⟨_, rfl⟩
  replace hw := hw P2 P55
  replace hw := hw (by
    intro x3 st hw
    rw [hP2]
    refine g_iload_n C 3 dX1_insertRule_2 rfl rfl ?_
    refine g_bipush C (24 : Int32) dX1_insertRule_3 (by decide) ?_
    refine g_icmp_ge C 31 dX1_insertRule_5 (by decide) (fun c_5 => ?_) (fun c_5 => ?_)
    · replace hw := hw.1 c_5
      refine g_aload_n C 0 dX1_insertRule_31 rfl rfl ?_
      refine g_get C inX1 (C.pol hk0) (isPol.cell hk0 G _) rfl 0 (by decide) tw_63 rfl dX1_insertRule_32 ?_
      refine g_bipush C (24 : Int32) dX1_insertRule_35 (by decide) ?_
      refine g_aload_n C 0 dX1_insertRule_37 rfl rfl ?_
      refine g_get C inX1 (C.pol hk0) (isPol.cell hk0 G _) rfl 0 (by decide) tw_63 rfl dX1_insertRule_38 ?_
      refine g_bipush C (24 : Int32) dX1_insertRule_41 (by decide) ?_
      refine g_iald C (C.row hk0) (isPol.row hk0 G _) hw.1 dX1_insertRule_43 ?_
      replace hw := hw.2
      refine g_iload_n C 1 dX1_insertRule_44 rfl rfl ?_
      refine g_iload_n C 2 dX1_insertRule_45 rfl rfl ?_
      refine g_iconst C (1 : Int32) dX1_insertRule_46 (by decide) ?_
      refine g_icmp_ne C 54 dX1_insertRule_47 (by decide) (fun c_1 => ?_) (fun c_1 => ?_)
      · replace hw := hw.2 c_1
        refine g_iconst C (0 : Int32) dX1_insertRule_54 (by decide) ?_
        rw [hP55] at hw
        exact g_perm [0, 1, 2] rfl (hw)
      · replace hw := hw.1 c_1
        refine g_iconst C (1 : Int32) dX1_insertRule_50 (by decide) ?_
        refine g_goto C 55 dX1_insertRule_51 (by decide) ?_
        rw [hP55] at hw
        exact g_perm [0, 1, 2] rfl (hw)
    · replace hw := hw.2 c_5
      refine g_aload_n C 0 dX1_insertRule_8 rfl rfl ?_
      refine g_get C inX1 (C.pol hk0) (isPol.cell hk0 G _) rfl 0 (by decide) tw_63 rfl dX1_insertRule_9 ?_
      refine g_iload_n C 3 dX1_insertRule_12 rfl rfl ?_
      refine g_aload_n C 0 dX1_insertRule_13 rfl rfl ?_
      refine g_get C inX1 (C.pol hk0) (isPol.cell hk0 G _) rfl 0 (by decide) tw_63 rfl dX1_insertRule_14 ?_
      refine g_iload_n C 3 dX1_insertRule_17 rfl rfl ?_
      refine g_iald C (C.row hk0) (isPol.row hk0 G _) hw.1 dX1_insertRule_18 ?_
      replace hw := hw.2
      refine g_iload_n C 1 dX1_insertRule_19 rfl rfl ?_
      refine g_iconst C (1 : Int32) dX1_insertRule_20 (by decide) ?_
      refine g_callSi C (c_X1_withBitInserted l G hO hwin hw) kX1_withBitInserted tw_238 rfl rfl ⟨Nat.le_of_ble_eq_true rfl, Nat.le_of_ble_eq_true rfl⟩ (As := [.int (st (k0 + 1) x3.toNatClampNeg), .int x1, .int (1 : Int32)]) (rest := [.int x3, .ref (gh G (k0 + 1))]) rfl rfl (Nat.le_of_ble_eq_true rfl) dX1_insertRule_21 ⟨Nat.le_of_ble_eq_true rfl, Nat.le_of_ble_eq_true rfl⟩ (fun r_3 s_2 hw => ?_)
      refine g_iast C (C.row hk0) (isPol.row hk0 G) hw.1 dX1_insertRule_24 ?_
      replace hw := hw.2
      obtain ⟨x3_4, ex3_4⟩ : ∃ z : Int32, z = x3 + (1 : Int32) := ⟨_, rfl⟩
      replace hw := hw x3_4 ex3_4
      refine g_iinc C x3_4 3 dX1_insertRule_25 rfl ex3_4.symm (by decide) (lv' := [(3, .int x3_4), (0, .ref (gh G k0)), (1, .int x1), (2, .int x2)]) rfl ?_
      refine g_goto C 2 dX1_insertRule_28 (by decide) ?_
      rw [hP2] at hw
      exact g_perm [1, 2, 3, 0] rfl (hw))
  replace hw := hw (by
    intro y1 y2 y3 y4 st hw
    rw [hP55]
    refine g_callSi C (c_X1_withBitInserted l G hO hwin hw) kX1_withBitInserted tw_238 rfl rfl ⟨Nat.le_of_ble_eq_true rfl, Nat.le_of_ble_eq_true rfl⟩ (As := [.int y2, .int y3, .int y4]) (rest := [.int y1, .ref (gh G (k0 + 1))]) rfl rfl (Nat.le_of_ble_eq_true rfl) dX1_insertRule_55 ⟨Nat.le_of_ble_eq_true rfl, Nat.le_of_ble_eq_true rfl⟩ (fun r_7 s_6 hw => ?_)
    refine g_iast C (C.row hk0) (isPol.row hk0 G) hw.1 dX1_insertRule_58 ?_
    replace hw := hw.2
    refine g_aload_n C 0 dX1_insertRule_59 rfl rfl ?_
    refine g_dup C dX1_insertRule_60 rfl ?_
    refine g_get C inX1 (C.pol hk0) (isPol.cell hk0 G _) rfl 1 (by decide) tw_64 rfl dX1_insertRule_61 ?_
    refine g_iconst C (1 : Int32) dX1_insertRule_64 (by decide) ?_
    refine g_iadd C dX1_insertRule_65 ?_
    refine g_put (ty := .int) (((up2 s_6 (k0 + 1) y1.toNatClampNeg r_7) k0 1) + (1 : Int32)) C inX1 tyX1_ok nmX1 (C.pol hk0) (isPol.cell hk0 G _) rfl 1 (by decide) tw_64 rfl (by decide +kernel) rfl rfl (Nat.le_of_ble_eq_true rfl) (isPol.cell hk0 G _) dX1_insertRule_66 ?_
    exact g_vret C hr hlk hw dX1_insertRule_69)
  refine g_iconst C (0 : Int32) dX1_insertRule_0 (by decide) ?_
  refine g_istore_n C dX1_insertRule_1 rfl (by decide) (lv' := [(3, .int (0 : Int32)), (0, .ref (gh G k0)), (1, .int x1), (2, .int x2)]) rfl ?_
  rw [hP2] at hw
  exact g_perm [1, 2, 3, 0] rfl (hw)

set_option maxHeartbeats 4000000 in
set_option maxRecDepth 100000 in
theorem c_X1_dropRule (l : Launch) (G : Gp) (hO : gOK G) (hwin : ∀ k, 0 ≤ k → k < 17 → k ∈ gks G) {k0 : Nat} {x1 : Int32} (hk0 : isPol k0) {st : St} {Q : St → Prop} (hw : wp_X1_dropRule k0 x1 st Q) : MV l G yX1_dropRule cX1_dropRule 3 { frames := 1, cells := 0, slots := 0, locals := 22 } [.ref (gh G k0), .int x1] st Q := by
  refine MV.of (own := RX1) (lo := 0) (hi := 17) hO hwin (by decide) rfl (Nat.le_of_ble_eq_true rfl) (fun p e s m args below meth c C hr hlk => ?_)
  refine g_lv (lv' := [(0, .ref (gh G k0)), (1, .int x1)]) rfl ?_
  unfold wp_X1_dropRule at hw
  obtain ⟨P2, hP2⟩ : ∃ P : Int32 → St → Prop, P = fun x2 st => WG p l e ({ frames := 1, cells := 0, slots := 0, locals := 22 } : Room) s m args below meth c 0 0 (MQ below (va_Qv Q (gB G) (gA G)) args s 0 0 (gA G)) G 3 2 [(0, .ref (gh G k0)), (1, .int x1), (2, .int x2)] [] st := ⟨_, rfl⟩
  replace hw := hw P2
  replace hw := hw (by
    intro x2 st hw
    rw [hP2]
    refine g_iload_n C 2 dX1_dropRule_2 rfl rfl ?_
    refine g_bipush C (25 : Int32) dX1_dropRule_3 (by decide) ?_
    refine g_icmp_ge C 30 dX1_dropRule_5 (by decide) (fun c_4 => ?_) (fun c_4 => ?_)
    · replace hw := hw.1 c_4
      refine g_aload_n C 0 dX1_dropRule_30 rfl rfl ?_
      refine g_dup C dX1_dropRule_31 rfl ?_
      refine g_get C inX1 (C.pol hk0) (isPol.cell hk0 G _) rfl 1 (by decide) tw_64 rfl dX1_dropRule_32 ?_
      refine g_iconst C (1 : Int32) dX1_dropRule_35 (by decide) ?_
      refine g_isub C dX1_dropRule_36 ?_
      refine g_put (ty := .int) ((st k0 1) - (1 : Int32)) C inX1 tyX1_ok nmX1 (C.pol hk0) (isPol.cell hk0 G _) rfl 1 (by decide) tw_64 rfl (by decide +kernel) rfl rfl (Nat.le_of_ble_eq_true rfl) (isPol.cell hk0 G _) dX1_dropRule_37 ?_
      exact g_vret C hr hlk hw dX1_dropRule_40
    · replace hw := hw.2 c_4
      refine g_aload_n C 0 dX1_dropRule_8 rfl rfl ?_
      refine g_get C inX1 (C.pol hk0) (isPol.cell hk0 G _) rfl 0 (by decide) tw_63 rfl dX1_dropRule_9 ?_
      refine g_iload_n C 2 dX1_dropRule_12 rfl rfl ?_
      refine g_aload_n C 0 dX1_dropRule_13 rfl rfl ?_
      refine g_get C inX1 (C.pol hk0) (isPol.cell hk0 G _) rfl 0 (by decide) tw_63 rfl dX1_dropRule_14 ?_
      refine g_iload_n C 2 dX1_dropRule_17 rfl rfl ?_
      refine g_iald C (C.row hk0) (isPol.row hk0 G _) hw.1 dX1_dropRule_18 ?_
      replace hw := hw.2
      refine g_iload_n C 1 dX1_dropRule_19 rfl rfl ?_
      refine g_callSi C (c_X1_withBitDropped l G hO hwin hw) kX1_withBitDropped tw_371 rfl rfl ⟨Nat.le_of_ble_eq_true rfl, Nat.le_of_ble_eq_true rfl⟩ (As := [.int (st (k0 + 1) x2.toNatClampNeg), .int x1]) (rest := [.int x2, .ref (gh G (k0 + 1))]) rfl rfl (Nat.le_of_ble_eq_true rfl) dX1_dropRule_20 ⟨Nat.le_of_ble_eq_true rfl, Nat.le_of_ble_eq_true rfl⟩ (fun r_2 s_1 hw => ?_)
      refine g_iast C (C.row hk0) (isPol.row hk0 G) hw.1 dX1_dropRule_23 ?_
      replace hw := hw.2
      obtain ⟨x2_3, ex2_3⟩ : ∃ z : Int32, z = x2 + (1 : Int32) := ⟨_, rfl⟩
      replace hw := hw x2_3 ex2_3
      refine g_iinc C x2_3 2 dX1_dropRule_24 rfl ex2_3.symm (by decide) (lv' := [(2, .int x2_3), (0, .ref (gh G k0)), (1, .int x1)]) rfl ?_
      refine g_goto C 2 dX1_dropRule_27 (by decide) ?_
      rw [hP2] at hw
      exact g_perm [1, 2, 0] rfl (hw))
  refine g_iconst C (0 : Int32) dX1_dropRule_0 (by decide) ?_
  refine g_istore_n C dX1_dropRule_1 rfl (by decide) (lv' := [(2, .int (0 : Int32)), (0, .ref (gh G k0)), (1, .int x1)]) rfl ?_
  rw [hP2] at hw
  exact g_perm [1, 2, 0] rfl (hw)

set_option maxHeartbeats 4000000 in
set_option maxRecDepth 100000 in
theorem c_X1_shiftRule (l : Launch) (G : Gp) (hO : gOK G) (hwin : ∀ k, 0 ≤ k → k < 17 → k ∈ gks G) {k0 : Nat} {x1 : Int32} {x2 : Int32} (hk0 : isPol k0) {st : St} {Q : St → Prop} (hw : wp_X1_shiftRule k0 x1 x2 st Q) : MV l G yX1_shiftRule cX1_shiftRule 5 { frames := 1, cells := 0, slots := 0, locals := 23 } [.ref (gh G k0), .int x1, .int x2] st Q := by
  refine MV.of (own := RX1) (lo := 0) (hi := 17) hO hwin (by decide) rfl (Nat.le_of_ble_eq_true rfl) (fun p e s m args below meth c C hr hlk => ?_)
  refine g_lv (lv' := [(0, .ref (gh G k0)), (1, .int x1), (2, .int x2)]) rfl ?_
  unfold wp_X1_shiftRule at hw
  obtain ⟨P2, hP2⟩ : ∃ P : Int32 → St → Prop, P = fun x3 st => WG p l e ({ frames := 1, cells := 0, slots := 0, locals := 23 } : Room) s m args below meth c 0 0 (MQ below (va_Qv Q (gB G) (gA G)) args s 0 0 (gA G)) G 5 2 [(0, .ref (gh G k0)), (1, .int x1), (2, .int x2), (3, .int x3)] [] st := ⟨_, rfl⟩
  replace hw := hw P2
  replace hw := hw (by
    intro x3 st hw
    rw [hP2]
    refine g_iload_n C 3 dX1_shiftRule_2 rfl rfl ?_
    refine g_bipush C (25 : Int32) dX1_shiftRule_3 (by decide) ?_
    refine g_icmp_ge C 48 dX1_shiftRule_5 (by decide) (fun c_7 => ?_) (fun c_7 => ?_)
    · replace hw := hw.1 c_7
      exact g_vret C hr hlk hw dX1_shiftRule_48
    · replace hw := hw.2 c_7
      refine g_aload_n C 0 dX1_shiftRule_8 rfl rfl ?_
      refine g_get C inX1 (C.pol hk0) (isPol.cell hk0 G _) rfl 0 (by decide) tw_63 rfl dX1_shiftRule_9 ?_
      refine g_iload_n C 3 dX1_shiftRule_12 rfl rfl ?_
      refine g_iald C (C.row hk0) (isPol.row hk0 G _) hw.1 dX1_shiftRule_13 ?_
      replace hw := hw.2
      refine g_iload_n C 1 dX1_shiftRule_14 rfl rfl ?_
      refine g_ishr C dX1_shiftRule_15 ?_
      refine g_iconst C (1 : Int32) dX1_shiftRule_16 (by decide) ?_
      refine g_iand C dX1_shiftRule_17 ?_
      refine g_topi (fun x4_1 ex4_1 => ?_)
      replace hw := hw x4_1 ex4_1
      refine g_istore C dX1_shiftRule_18 (by decide) (lv' := [(4, .int x4_1), (0, .ref (gh G k0)), (1, .int x1), (2, .int x2), (3, .int x3)]) rfl ?_
      refine g_aload_n C 1 dX1_shiftRule_20 rfl rfl ?_
      refine g_get C inX1 (C.pol hk0) (isPol.cell hk0 G _) rfl 0 (by decide) tw_63 rfl dX1_shiftRule_21 ?_
      refine g_iload_n C 4 dX1_shiftRule_24 rfl rfl ?_
      refine g_aload_n C 1 dX1_shiftRule_25 rfl rfl ?_
      refine g_get C inX1 (C.pol hk0) (isPol.cell hk0 G _) rfl 0 (by decide) tw_63 rfl dX1_shiftRule_26 ?_
      refine g_iload_n C 4 dX1_shiftRule_29 rfl rfl ?_
      refine g_iald C (C.row hk0) (isPol.row hk0 G _) hw.1 dX1_shiftRule_30 ?_
      replace hw := hw.2
      refine g_iload_n C 2 dX1_shiftRule_31 rfl rfl ?_
      refine g_callSi C (c_X1_withBitDropped l G hO hwin hw) kX1_withBitDropped tw_371 rfl rfl ⟨Nat.le_of_ble_eq_true rfl, Nat.le_of_ble_eq_true rfl⟩ (As := [.int (st (k0 + 1) x3.toNatClampNeg), .int x1]) (rest := [.int x3, .ref (gh G (k0 + 1))]) rfl rfl (Nat.le_of_ble_eq_true rfl) dX1_shiftRule_32 ⟨Nat.le_of_ble_eq_true rfl, Nat.le_of_ble_eq_true rfl⟩ (fun r_3 s_2 hw => ?_)
      refine g_iload_n C 3 dX1_shiftRule_35 rfl rfl ?_
      refine g_iload C 0 dX1_shiftRule_36 rfl ?_
      refine g_callSi C (c_X1_withBitInserted l G hO hwin hw) kX1_withBitInserted tw_238 rfl rfl ⟨Nat.le_of_ble_eq_true rfl, Nat.le_of_ble_eq_true rfl⟩ (As := [.int r_3, .int x2, .int x4_1]) (rest := [.int x3, .ref (gh G (k0 + 1))]) rfl rfl (Nat.le_of_ble_eq_true rfl) dX1_shiftRule_38 ⟨Nat.le_of_ble_eq_true rfl, Nat.le_of_ble_eq_true rfl⟩ (fun r_5 s_4 hw => ?_)
      refine g_iast C (C.row hk0) (isPol.row hk0 G) hw.1 dX1_shiftRule_41 ?_
      replace hw := hw.2
      obtain ⟨x3_6, ex3_6⟩ : ∃ z : Int32, z = x3 + (1 : Int32) := ⟨_, rfl⟩
      replace hw := hw x3_6 ex3_6
      refine g_iinc C x3_6 4 dX1_shiftRule_42 rfl ex3_6.symm (by decide) (lv' := [(3, .int x3_6), (4, .int x4_1), (0, .ref (gh G k0)), (1, .int x1), (2, .int x2)]) rfl ?_
      refine g_goto C 2 dX1_shiftRule_45 (by decide) ?_
      rw [hP2] at hw
      exact g_perm [2, 3, 4, 0] rfl (hw))
  refine g_iconst C (0 : Int32) dX1_shiftRule_0 (by decide) ?_
  refine g_istore_n C dX1_shiftRule_1 rfl (by decide) (lv' := [(3, .int (0 : Int32)), (0, .ref (gh G k0)), (1, .int x1), (2, .int x2)]) rfl ?_
  rw [hP2] at hw
  exact g_perm [1, 2, 3, 0] rfl (hw)

set_option maxHeartbeats 4000000 in
set_option maxRecDepth 100000 in
theorem c_X1_restrict (l : Launch) (G : Gp) (hO : gOK G) (hwin : ∀ k, 0 ≤ k → k < 17 → k ∈ gks G) {k0 : Nat} {x1 : Int32} {x2 : Int32} {x3 : Int32} (hk0 : isPol k0) {st : St} {Q : St → Prop} (hw : wp_X1_restrict k0 x1 x2 x3 st Q) : MV l G yX1_restrict cX1_restrict 7 { frames := 0, cells := 0, slots := 0, locals := 0 } [.ref (gh G k0), .int x1, .int x2, .int x3] st Q := by
  refine MV.of (own := RX1) (lo := 0) (hi := 17) hO hwin (by decide) rfl (Nat.le_of_ble_eq_true rfl) (fun p e s m args below meth c C hr hlk => ?_)
  refine g_lv (lv' := [(0, .ref (gh G k0)), (1, .int x1), (2, .int x2), (3, .int x3)]) rfl ?_
  unfold wp_X1_restrict at hw
  obtain ⟨P10, hP10⟩ : ∃ P : Int32 → Int32 → St → Prop, P = fun x4 x5 st => WG p l e ({ frames := 0, cells := 0, slots := 0, locals := 0 } : Room) s m args below meth c 0 0 (MQ below (va_Qv Q (gB G) (gA G)) args s 0 0 (gA G)) G 7 10 [(0, .ref (gh G k0)), (1, .int x1), (2, .int x2), (3, .int x3), (4, .int x4), (5, .int x5)] [] st := ⟨_, rfl⟩
  replace hw := hw P10
  replace hw := hw (by
    intro x4 x5 st hw
    rw [hP10]
    refine g_iload C 5 dX1_restrict_10 rfl ?_
    refine g_getsN C (fun h => h.1.1) (fun h => h.2.2.2.2.2.2.2.1) dX1_restrict_12 ?_
    refine g_iload_n C 2 dX1_restrict_15 rfl rfl ?_
    refine g_ti C (fun h => h.1.2) hw.1 dX1_restrict_16 ?_
    replace hw := hw.2
    refine g_icmp_ge C 65 dX1_restrict_17 (by decide) (fun c_3 => ?_) (fun c_3 => ?_)
    · replace hw := hw.1 c_3
      exact g_vret C hr hlk hw dX1_restrict_65
    · replace hw := hw.2 c_3
      refine g_iload_n C 3 dX1_restrict_20 rfl rfl ?_
      refine g_iload C 5 dX1_restrict_21 rfl ?_
      refine g_ishr C dX1_restrict_23 ?_
      refine g_iconst C (1 : Int32) dX1_restrict_24 (by decide) ?_
      refine g_iand C dX1_restrict_25 ?_
      refine g_topi (fun x6_1 ex6_1 => ?_)
      replace hw := hw x6_1 ex6_1
      refine g_istore C dX1_restrict_26 (by decide) (lv' := [(6, .int x6_1), (0, .ref (gh G k0)), (1, .int x1), (2, .int x2), (3, .int x3), (4, .int x4), (5, .int x5)]) rfl ?_
      refine g_aload_n C 1 dX1_restrict_28 rfl rfl ?_
      refine g_get C inX1 (C.pol hk0) (isPol.cell hk0 G _) rfl 0 (by decide) tw_63 rfl dX1_restrict_29 ?_
      refine g_iload C 5 dX1_restrict_32 rfl ?_
      refine g_iload C 6 dX1_restrict_34 rfl ?_
      refine g_iadd C dX1_restrict_36 ?_
      refine g_aload_n C 1 dX1_restrict_37 rfl rfl ?_
      refine g_get C inX1 (C.pol hk0) (isPol.cell hk0 G _) rfl 0 (by decide) tw_63 rfl dX1_restrict_38 ?_
      refine g_iload C 5 dX1_restrict_41 rfl ?_
      refine g_iload C 6 dX1_restrict_43 rfl ?_
      refine g_iadd C dX1_restrict_45 ?_
      refine g_iald C (C.row hk0) (isPol.row hk0 G _) hw.1 dX1_restrict_46 ?_
      replace hw := hw.2
      refine g_iconst C (1 : Int32) dX1_restrict_47 (by decide) ?_
      refine g_iload_n C 2 dX1_restrict_48 rfl rfl ?_
      refine g_ishl C dX1_restrict_49 ?_
      refine g_iconst C (-1 : Int32) dX1_restrict_50 (by decide) ?_
      refine g_ixor C dX1_restrict_51 ?_
      refine g_iand C dX1_restrict_52 ?_
      refine g_iload C 0 dX1_restrict_53 rfl ?_
      refine g_iload_n C 2 dX1_restrict_55 rfl rfl ?_
      refine g_ishl C dX1_restrict_56 ?_
      refine g_ior C dX1_restrict_57 ?_
      refine g_iast C (C.row hk0) (isPol.row hk0 G) hw.1 dX1_restrict_58 ?_
      replace hw := hw.2
      obtain ⟨x5_2, ex5_2⟩ : ∃ z : Int32, z = x5 + (1 : Int32) := ⟨_, rfl⟩
      replace hw := hw x5_2 ex5_2
      refine g_iinc C x5_2 6 dX1_restrict_59 rfl ex5_2.symm (by decide) (lv' := [(5, .int x5_2), (6, .int x6_1), (0, .ref (gh G k0)), (1, .int x1), (2, .int x2), (3, .int x3), (4, .int x4)]) rfl ?_
      refine g_goto C 10 dX1_restrict_62 (by decide) ?_
      rw [hP10] at hw
      exact g_perm [2, 3, 4, 5, 6, 0] rfl (hw))
  refine g_gets C (fun h => h.2.2.1.1) tw_261 dX1_restrict_0 ?_
  refine g_iload_n C 2 dX1_restrict_3 rfl rfl ?_
  refine g_ti C (fun h => h.2.2.1.2) hw.1 dX1_restrict_4 ?_
  replace hw := hw.2
  refine g_topi (fun x4_4 ex4_4 => ?_)
  replace hw := hw x4_4 ex4_4
  refine g_istore C dX1_restrict_5 (by decide) (lv' := [(4, .int x4_4), (0, .ref (gh G k0)), (1, .int x1), (2, .int x2), (3, .int x3)]) rfl ?_
  refine g_iconst C (0 : Int32) dX1_restrict_7 (by decide) ?_
  refine g_istore C dX1_restrict_8 (by decide) (lv' := [(5, .int (0 : Int32)), (4, .int x4_4), (0, .ref (gh G k0)), (1, .int x1), (2, .int x2), (3, .int x3)]) rfl ?_
  rw [hP10] at hw
  exact g_perm [2, 3, 4, 5, 1, 0] rfl (hw)

set_option maxHeartbeats 4000000 in
set_option maxRecDepth 100000 in
theorem c_X1_valuesAt (l : Launch) (G : Gp) (hO : gOK G) (hwin : ∀ k, 0 ≤ k → k < 17 → k ∈ gks G) {k0 : Nat} {x1 : Int32} {x2 : Int32} (hk0 : isPol k0) {st : St} {Q : Int32 → St → Prop} (hw : wp_X1_valuesAt k0 x1 x2 st Q) : MI l G yX1_valuesAt cX1_valuesAt 6 (some .int) { frames := 0, cells := 0, slots := 0, locals := 0 } [.ref (gh G k0), .int x1, .int x2] st Q := by
  refine MI.of (own := RX1) (lo := 0) (hi := 17) hO hwin (by decide) rfl (Nat.le_of_ble_eq_true rfl) (fun p e s m args below meth c C hr hlk => ?_)
  refine g_lv (lv' := [(0, .ref (gh G k0)), (1, .int x1), (2, .int x2)]) rfl ?_
  unfold wp_X1_valuesAt at hw
  obtain ⟨P12, hP12⟩ : ∃ P : Int32 → Int32 → Int32 → St → Prop, P = fun x3 x4 x5 st => WG p l e ({ frames := 0, cells := 0, slots := 0, locals := 0 } : Room) s m args below meth c 0 0 (MQ below (va_Qi Q (gB G) (gA G)) args s 0 0 (gA G)) G 6 12 [(0, .ref (gh G k0)), (1, .int x1), (2, .int x2), (3, .int x3), (4, .int x4), (5, .int x5)] [] st := ⟨_, rfl⟩
  replace hw := hw P12
  replace hw := hw (by
    intro x3 x4 x5 st hw
    rw [hP12]
    refine g_iload C 5 dX1_valuesAt_12 rfl ?_
    refine g_getsN C (fun h => h.1.1) (fun h => h.2.2.2.2.2.2.2.1) dX1_valuesAt_14 ?_
    refine g_iload_n C 2 dX1_valuesAt_17 rfl rfl ?_
    refine g_ti C (fun h => h.1.2) hw.1 dX1_valuesAt_18 ?_
    replace hw := hw.2
    refine g_icmp_ge C 49 dX1_valuesAt_19 (by decide) (fun c_3 => ?_) (fun c_3 => ?_)
    · replace hw := hw.1 c_3
      refine g_iload C 4 dX1_valuesAt_49 rfl ?_
      exact g_iret C hr hlk hw dX1_valuesAt_51
    · replace hw := hw.2 c_3
      refine g_iload C 4 dX1_valuesAt_22 rfl ?_
      refine g_aload_n C 0 dX1_valuesAt_24 rfl rfl ?_
      refine g_get C inX1 (C.pol hk0) (isPol.cell hk0 G _) rfl 0 (by decide) tw_63 rfl dX1_valuesAt_25 ?_
      refine g_iload_n C 3 dX1_valuesAt_28 rfl rfl ?_
      refine g_iload C 5 dX1_valuesAt_29 rfl ?_
      refine g_iadd C dX1_valuesAt_31 ?_
      refine g_iald C (C.row hk0) (isPol.row hk0 G _) hw.1 dX1_valuesAt_32 ?_
      replace hw := hw.2
      refine g_iload_n C 1 dX1_valuesAt_33 rfl rfl ?_
      refine g_ishr C dX1_valuesAt_34 ?_
      refine g_iconst C (1 : Int32) dX1_valuesAt_35 (by decide) ?_
      refine g_iand C dX1_valuesAt_36 ?_
      refine g_iload C 5 dX1_valuesAt_37 rfl ?_
      refine g_ishl C dX1_valuesAt_39 ?_
      refine g_ior C dX1_valuesAt_40 ?_
      refine g_topi (fun x4_1 ex4_1 => ?_)
      replace hw := hw x4_1 ex4_1
      refine g_istore C dX1_valuesAt_41 (by decide) (lv' := [(4, .int x4_1), (0, .ref (gh G k0)), (1, .int x1), (2, .int x2), (3, .int x3), (5, .int x5)]) rfl ?_
      obtain ⟨x5_2, ex5_2⟩ : ∃ z : Int32, z = x5 + (1 : Int32) := ⟨_, rfl⟩
      replace hw := hw x5_2 ex5_2
      refine g_iinc C x5_2 5 dX1_valuesAt_43 rfl ex5_2.symm (by decide) (lv' := [(5, .int x5_2), (4, .int x4_1), (0, .ref (gh G k0)), (1, .int x1), (2, .int x2), (3, .int x3)]) rfl ?_
      refine g_goto C 12 dX1_valuesAt_46 (by decide) ?_
      rw [hP12] at hw
      exact g_perm [2, 3, 4, 5, 1, 0] rfl (hw))
  refine g_gets C (fun h => h.2.2.1.1) tw_261 dX1_valuesAt_0 ?_
  refine g_iload_n C 2 dX1_valuesAt_3 rfl rfl ?_
  refine g_ti C (fun h => h.2.2.1.2) hw.1 dX1_valuesAt_4 ?_
  replace hw := hw.2
  refine g_topi (fun x3_4 ex3_4 => ?_)
  replace hw := hw x3_4 ex3_4
  refine g_istore_n C dX1_valuesAt_5 rfl (by decide) (lv' := [(3, .int x3_4), (0, .ref (gh G k0)), (1, .int x1), (2, .int x2)]) rfl ?_
  refine g_iconst C (0 : Int32) dX1_valuesAt_6 (by decide) ?_
  refine g_istore C dX1_valuesAt_7 (by decide) (lv' := [(4, .int (0 : Int32)), (3, .int x3_4), (0, .ref (gh G k0)), (1, .int x1), (2, .int x2)]) rfl ?_
  refine g_iconst C (0 : Int32) dX1_valuesAt_9 (by decide) ?_
  refine g_istore C dX1_valuesAt_10 (by decide) (lv' := [(5, .int (0 : Int32)), (4, .int (0 : Int32)), (3, .int x3_4), (0, .ref (gh G k0)), (1, .int x1), (2, .int x2)]) rfl ?_
  rw [hP12] at hw
  exact g_perm [3, 4, 5, 2, 1, 0] rfl (hw)

set_option maxHeartbeats 4000000 in
set_option maxRecDepth 100000 in
theorem c_X1_turnEffect (l : Launch) (G : Gp) (hO : gOK G) (hwin : ∀ k, 0 ≤ k → k < 17 → k ∈ gks G) {k0 : Nat} {x1 : Int32} (hk0 : isPol k0) {st : St} {Q : St → Prop} (hw : wp_X1_turnEffect k0 x1 st Q) : MV l G yX1_turnEffect cX1_turnEffect 2 { frames := 0, cells := 0, slots := 0, locals := 0 } [.ref (gh G k0), .int x1] st Q := by
  refine MV.of (own := RX1) (lo := 0) (hi := 17) hO hwin (by decide) rfl (Nat.le_of_ble_eq_true rfl) (fun p e s m args below meth c C hr hlk => ?_)
  refine g_lv (lv' := [(0, .ref (gh G k0)), (1, .int x1)]) rfl ?_
  unfold wp_X1_turnEffect at hw
  refine g_aload_n C 0 dX1_turnEffect_0 rfl rfl ?_
  refine g_get C inX1 (C.pol hk0) (isPol.cell hk0 G _) rfl 0 (by decide) tw_63 rfl dX1_turnEffect_1 ?_
  refine g_bipush C (24 : Int32) dX1_turnEffect_4 (by decide) ?_
  refine g_dup2 C dX1_turnEffect_6 rfl rfl ?_
  refine g_iald C (C.row hk0) (isPol.row hk0 G _) hw.1 dX1_turnEffect_7 ?_
  replace hw := hw.2
  refine g_iconst C (1 : Int32) dX1_turnEffect_8 (by decide) ?_
  refine g_iload_n C 1 dX1_turnEffect_9 rfl rfl ?_
  refine g_ishl C dX1_turnEffect_10 ?_
  refine g_ixor C dX1_turnEffect_11 ?_
  refine g_iast C (C.row hk0) (isPol.row hk0 G) hw.1 dX1_turnEffect_12 ?_
  replace hw := hw.2
  exact g_vret C hr hlk hw dX1_turnEffect_13

set_option maxHeartbeats 4000000 in
set_option maxRecDepth 100000 in
theorem c_X1_effectAt (l : Launch) (G : Gp) (hO : gOK G) (hwin : ∀ k, 0 ≤ k → k < 17 → k ∈ gks G) {k0 : Nat} {x1 : Int32} (hk0 : isPol k0) {st : St} {Q : Int32 → St → Prop} (hw : wp_X1_effectAt k0 x1 st Q) : MI l G yX1_effectAt cX1_effectAt 2 (some .int) { frames := 0, cells := 0, slots := 0, locals := 0 } [.ref (gh G k0), .int x1] st Q := by
  refine MI.of (own := RX1) (lo := 0) (hi := 17) hO hwin (by decide) rfl (Nat.le_of_ble_eq_true rfl) (fun p e s m args below meth c C hr hlk => ?_)
  refine g_lv (lv' := [(0, .ref (gh G k0)), (1, .int x1)]) rfl ?_
  unfold wp_X1_effectAt at hw
  refine g_aload_n C 0 dX1_effectAt_0 rfl rfl ?_
  refine g_get C inX1 (C.pol hk0) (isPol.cell hk0 G _) rfl 0 (by decide) tw_63 rfl dX1_effectAt_1 ?_
  refine g_bipush C (24 : Int32) dX1_effectAt_4 (by decide) ?_
  refine g_iald C (C.row hk0) (isPol.row hk0 G _) hw.1 dX1_effectAt_6 ?_
  replace hw := hw.2
  refine g_iload_n C 1 dX1_effectAt_7 rfl rfl ?_
  refine g_ishr C dX1_effectAt_8 ?_
  refine g_iconst C (1 : Int32) dX1_effectAt_9 (by decide) ?_
  refine g_iand C dX1_effectAt_10 ?_
  refine g_if_eq C 18 dX1_effectAt_11 (by decide) (fun c_1 => ?_) (fun c_1 => ?_)
  · replace hw := hw.1 c_1
    refine g_iconst C (0 : Int32) dX1_effectAt_18 (by decide) ?_
    exact g_iret C hr hlk hw dX1_effectAt_19
  · replace hw := hw.2 c_1
    refine g_iconst C (1 : Int32) dX1_effectAt_14 (by decide) ?_
    refine g_goto C 19 dX1_effectAt_15 (by decide) ?_
    exact g_iret C hr hlk hw dX1_effectAt_19

set_option maxHeartbeats 4000000 in
set_option maxRecDepth 100000 in
theorem c_X1_allRules (l : Launch) (G : Gp) (hO : gOK G) (hwin : ∀ k, 0 ≤ k → k < 17 → k ∈ gks G) {k0 : Nat} (hk0 : isPol k0) {st : St} {Q : Int32 → St → Prop} (hw : wp_X1_allRules k0 st Q) : MI l G yX1_allRules cX1_allRules 1 (some .int) { frames := 0, cells := 0, slots := 0, locals := 0 } [.ref (gh G k0)] st Q := by
  refine MI.of (own := RX1) (lo := 0) (hi := 17) hO hwin (by decide) rfl (Nat.le_of_ble_eq_true rfl) (fun p e s m args below meth c C hr hlk => ?_)
  refine g_lv (lv' := [(0, .ref (gh G k0))]) rfl ?_
  unfold wp_X1_allRules at hw
  refine g_iconst C (1 : Int32) dX1_allRules_0 (by decide) ?_
  refine g_aload_n C 0 dX1_allRules_1 rfl rfl ?_
  refine g_get C inX1 (C.pol hk0) (isPol.cell hk0 G _) rfl 1 (by decide) tw_64 rfl dX1_allRules_2 ?_
  refine g_ishl C dX1_allRules_5 ?_
  refine g_iconst C (1 : Int32) dX1_allRules_6 (by decide) ?_
  refine g_isub C dX1_allRules_7 ?_
  exact g_iret C hr hlk hw dX1_allRules_8

set_option maxHeartbeats 4000000 in
set_option maxRecDepth 100000 in
theorem c_X1_applying (l : Launch) (G : Gp) (hO : gOK G) (hwin : ∀ k, 0 ≤ k → k < 17 → k ∈ gks G) {k0 : Nat} {x1 : Int32} (hk0 : isPol k0) {st : St} {Q : Int32 → St → Prop} (hw : wp_X1_applying k0 x1 st Q) : MI l G yX1_applying cX1_applying 2 (some .int) { frames := 0, cells := 0, slots := 0, locals := 0 } [.ref (gh G k0), .int x1] st Q := by
  refine MI.of (own := RX1) (lo := 0) (hi := 17) hO hwin (by decide) rfl (Nat.le_of_ble_eq_true rfl) (fun p e s m args below meth c C hr hlk => ?_)
  refine g_lv (lv' := [(0, .ref (gh G k0)), (1, .int x1)]) rfl ?_
  unfold wp_X1_applying at hw
  refine g_aload_n C 0 dX1_applying_0 rfl rfl ?_
  refine g_get C inX1 (C.pol hk0) (isPol.cell hk0 G _) rfl 0 (by decide) tw_63 rfl dX1_applying_1 ?_
  refine g_iconst C (0 : Int32) dX1_applying_4 (by decide) ?_
  refine g_iload_n C 1 dX1_applying_5 rfl rfl ?_
  refine g_bipush C (7 : Int32) dX1_applying_6 (by decide) ?_
  refine g_ishr C dX1_applying_8 ?_
  refine g_bipush C (7 : Int32) dX1_applying_9 (by decide) ?_
  refine g_iand C dX1_applying_11 ?_
  refine g_iadd C dX1_applying_12 ?_
  refine g_iald C (C.row hk0) (isPol.row hk0 G _) hw.1 dX1_applying_13 ?_
  replace hw := hw.2
  refine g_aload_n C 0 dX1_applying_14 rfl rfl ?_
  refine g_get C inX1 (C.pol hk0) (isPol.cell hk0 G _) rfl 0 (by decide) tw_63 rfl dX1_applying_15 ?_
  refine g_bipush C (8 : Int32) dX1_applying_18 (by decide) ?_
  refine g_iload_n C 1 dX1_applying_20 rfl rfl ?_
  refine g_iconst C (5 : Int32) dX1_applying_21 (by decide) ?_
  refine g_ishr C dX1_applying_22 ?_
  refine g_iconst C (3 : Int32) dX1_applying_23 (by decide) ?_
  refine g_iand C dX1_applying_24 ?_
  refine g_iadd C dX1_applying_25 ?_
  refine g_iald C (C.row hk0) (isPol.row hk0 G _) hw.1 dX1_applying_26 ?_
  replace hw := hw.2
  refine g_iand C dX1_applying_27 ?_
  refine g_aload_n C 0 dX1_applying_28 rfl rfl ?_
  refine g_get C inX1 (C.pol hk0) (isPol.cell hk0 G _) rfl 0 (by decide) tw_63 rfl dX1_applying_29 ?_
  refine g_bipush C (12 : Int32) dX1_applying_32 (by decide) ?_
  refine g_iload_n C 1 dX1_applying_34 rfl rfl ?_
  refine g_iconst C (2 : Int32) dX1_applying_35 (by decide) ?_
  refine g_ishr C dX1_applying_36 ?_
  refine g_bipush C (7 : Int32) dX1_applying_37 (by decide) ?_
  refine g_iand C dX1_applying_39 ?_
  refine g_iadd C dX1_applying_40 ?_
  refine g_iald C (C.row hk0) (isPol.row hk0 G _) hw.1 dX1_applying_41 ?_
  replace hw := hw.2
  refine g_iand C dX1_applying_42 ?_
  refine g_aload_n C 0 dX1_applying_43 rfl rfl ?_
  refine g_get C inX1 (C.pol hk0) (isPol.cell hk0 G _) rfl 0 (by decide) tw_63 rfl dX1_applying_44 ?_
  refine g_bipush C (20 : Int32) dX1_applying_47 (by decide) ?_
  refine g_iload_n C 1 dX1_applying_49 rfl rfl ?_
  refine g_iconst C (3 : Int32) dX1_applying_50 (by decide) ?_
  refine g_iand C dX1_applying_51 ?_
  refine g_iadd C dX1_applying_52 ?_
  refine g_iald C (C.row hk0) (isPol.row hk0 G _) hw.1 dX1_applying_53 ?_
  replace hw := hw.2
  refine g_iand C dX1_applying_54 ?_
  exact g_iret C hr hlk hw dX1_applying_55

set_option maxHeartbeats 4000000 in
set_option maxRecDepth 100000 in
theorem c_X1_decisionAmong (l : Launch) (G : Gp) (hO : gOK G) (hwin : ∀ k, 0 ≤ k → k < 17 → k ∈ gks G) {k0 : Nat} {x1 : Int32} (hk0 : isPol k0) {st : St} {Q : Int32 → St → Prop} (hw : wp_X1_decisionAmong k0 x1 st Q) : MI l G yX1_decisionAmong cX1_decisionAmong 3 (some .int) { frames := 1, cells := 0, slots := 0, locals := 21 } [.ref (gh G k0), .int x1] st Q := by
  refine MI.of (own := RX1) (lo := 0) (hi := 17) hO hwin (by decide) rfl (Nat.le_of_ble_eq_true rfl) (fun p e s m args below meth c C hr hlk => ?_)
  refine g_lv (lv' := [(0, .ref (gh G k0)), (1, .int x1)]) rfl ?_
  unfold wp_X1_decisionAmong at hw
  refine g_iload_n C 1 dX1_decisionAmong_0 rfl rfl ?_
  refine g_if_ne C 6 dX1_decisionAmong_1 (by decide) (fun c_18 => ?_) (fun c_18 => ?_)
  · replace hw := hw.2 c_18
    refine g_iload_n C 1 dX1_decisionAmong_6 rfl rfl ?_
    refine g_aload_n C 0 dX1_decisionAmong_7 rfl rfl ?_
    refine g_get C inX1 (C.pol hk0) (isPol.cell hk0 G _) rfl 0 (by decide) tw_63 rfl dX1_decisionAmong_8 ?_
    refine g_bipush C (24 : Int32) dX1_decisionAmong_11 (by decide) ?_
    refine g_iald C (C.row hk0) (isPol.row hk0 G _) hw.1 dX1_decisionAmong_13 ?_
    replace hw := hw.2
    refine g_iand C dX1_decisionAmong_14 ?_
    refine g_topi (fun x2_1 ex2_1 => ?_)
    replace hw := hw x2_1 ex2_1
    refine g_istore_n C dX1_decisionAmong_15 rfl (by decide) (lv' := [(2, .int x2_1), (0, .ref (gh G k0)), (1, .int x1)]) rfl ?_
    refine g_aload_n C 1 dX1_decisionAmong_16 rfl rfl ?_
    refine g_get C inX1 (C.pol hk0) (isPol.cell hk0 G _) rfl 2 (by decide) tw_65 rfl dX1_decisionAmong_17 ?_
    rcases sw4 (st k0 2) with c_2 | c_2 | c_2 | c_2 | c_2
    · replace hw := hw.1 c_2
      refine g_tableIn C 52 dX1_decisionAmong_20 (by rw [c_2]; decide) (by rw [c_2]; decide) (by rw [c_2]; rfl) (by decide) ?_
      refine g_iload_n C 0 dX1_decisionAmong_52 rfl rfl ?_
      refine g_iload_n C 2 dX1_decisionAmong_53 rfl rfl ?_
      refine g_callSi C (c_J6_lowestOneBit_0f7a4 l G hO hwin hw) kJ6_lowestOneBit_0f7a4 tw_478 rfl rfl ⟨Nat.le_of_ble_eq_true rfl, Nat.le_of_ble_eq_true rfl⟩ (As := [.int x1]) (rest := [.int x2_1]) rfl rfl (Nat.le_of_ble_eq_true rfl) dX1_decisionAmong_54 ⟨Nat.le_of_ble_eq_true rfl, Nat.le_of_ble_eq_true rfl⟩ (fun r_4 s_3 hw => ?_)
      refine g_iand C dX1_decisionAmong_57 ?_
      refine g_if_eq C 65 dX1_decisionAmong_58 (by decide) (fun c_5 => ?_) (fun c_5 => ?_)
      · replace hw := hw.1 c_5
        refine g_iconst C (0 : Int32) dX1_decisionAmong_65 (by decide) ?_
        exact g_iret C hr hlk hw dX1_decisionAmong_66
      · replace hw := hw.2 c_5
        refine g_iconst C (1 : Int32) dX1_decisionAmong_61 (by decide) ?_
        refine g_goto C 66 dX1_decisionAmong_62 (by decide) ?_
        exact g_iret C hr hlk hw dX1_decisionAmong_66
    · replace hw := hw.2.1 c_2
      refine g_tableIn C 67 dX1_decisionAmong_20 (by rw [c_2]; decide) (by rw [c_2]; decide) (by rw [c_2]; rfl) (by decide) ?_
      refine g_iload_n C 0 dX1_decisionAmong_67 rfl rfl ?_
      refine g_if_eq C 75 dX1_decisionAmong_68 (by decide) (fun c_6 => ?_) (fun c_6 => ?_)
      · replace hw := hw.1 c_6
        refine g_iconst C (0 : Int32) dX1_decisionAmong_75 (by decide) ?_
        exact g_iret C hr hlk hw dX1_decisionAmong_76
      · replace hw := hw.2 c_6
        refine g_iconst C (1 : Int32) dX1_decisionAmong_71 (by decide) ?_
        refine g_goto C 76 dX1_decisionAmong_72 (by decide) ?_
        exact g_iret C hr hlk hw dX1_decisionAmong_76
    · replace hw := hw.2.2.1 c_2
      refine g_tableIn C 77 dX1_decisionAmong_20 (by rw [c_2]; decide) (by rw [c_2]; decide) (by rw [c_2]; rfl) (by decide) ?_
      refine g_iload_n C 0 dX1_decisionAmong_77 rfl rfl ?_
      refine g_iload_n C 2 dX1_decisionAmong_78 rfl rfl ?_
      refine g_icmp_eq C 86 dX1_decisionAmong_79 (by decide) (fun c_7 => ?_) (fun c_7 => ?_)
      · replace hw := hw.1 c_7
        refine g_iconst C (1 : Int32) dX1_decisionAmong_86 (by decide) ?_
        exact g_iret C hr hlk hw dX1_decisionAmong_87
      · replace hw := hw.2 c_7
        refine g_iconst C (0 : Int32) dX1_decisionAmong_82 (by decide) ?_
        refine g_goto C 87 dX1_decisionAmong_83 (by decide) ?_
        exact g_iret C hr hlk hw dX1_decisionAmong_87
    · replace hw := hw.2.2.2.1 c_2
      refine g_tableIn C 88 dX1_decisionAmong_20 (by rw [c_2]; decide) (by rw [c_2]; decide) (by rw [c_2]; rfl) (by decide) ?_
      refine g_iload_n C 2 dX1_decisionAmong_88 rfl rfl ?_
      refine g_callSi C (c_J6_bitCount_0f7a4 l G hO hwin hw) kJ6_bitCount_0f7a4 tw_481 rfl rfl ⟨Nat.le_of_ble_eq_true rfl, Nat.le_of_ble_eq_true rfl⟩ (As := [.int x1]) (rest := []) rfl rfl (Nat.le_of_ble_eq_true rfl) dX1_decisionAmong_89 ⟨Nat.le_of_ble_eq_true rfl, Nat.le_of_ble_eq_true rfl⟩ (fun r_9 s_8 hw => ?_)
      refine g_iconst C (1 : Int32) dX1_decisionAmong_92 (by decide) ?_
      refine g_icmp_le C 100 dX1_decisionAmong_93 (by decide) (fun c_11 => ?_) (fun c_11 => ?_)
      · replace hw := hw.1 c_11
        refine g_iload_n C 0 dX1_decisionAmong_100 rfl rfl ?_
        refine g_if_eq C 108 dX1_decisionAmong_101 (by decide) (fun c_10 => ?_) (fun c_10 => ?_)
        · replace hw := hw.1 c_10
          refine g_iconst C (0 : Int32) dX1_decisionAmong_108 (by decide) ?_
          exact g_iret C hr hlk hw dX1_decisionAmong_109
        · replace hw := hw.2 c_10
          refine g_iconst C (1 : Int32) dX1_decisionAmong_104 (by decide) ?_
          refine g_goto C 109 dX1_decisionAmong_105 (by decide) ?_
          exact g_iret C hr hlk hw dX1_decisionAmong_109
      · replace hw := hw.2 c_11
        refine g_iconst C (3 : Int32) dX1_decisionAmong_96 (by decide) ?_
        refine g_goto C 109 dX1_decisionAmong_97 (by decide) ?_
        exact g_iret C hr hlk hw dX1_decisionAmong_109
    · replace hw := hw.2.2.2.2 c_2.1
      refine g_table C 110 dX1_decisionAmong_20 c_2.2 (by decide) ?_
      refine g_iload_n C 2 dX1_decisionAmong_110 rfl rfl ?_
      refine g_iload_n C 0 dX1_decisionAmong_111 rfl rfl ?_
      refine g_iconst C (-1 : Int32) dX1_decisionAmong_112 (by decide) ?_
      refine g_ixor C dX1_decisionAmong_113 ?_
      refine g_iand C dX1_decisionAmong_114 ?_
      refine g_callSi C (c_J6_bitCount_0f7a4 l G hO hwin hw) kJ6_bitCount_0f7a4 tw_481 rfl rfl ⟨Nat.le_of_ble_eq_true rfl, Nat.le_of_ble_eq_true rfl⟩ (As := [.int (x1 &&& (x2_1 ^^^ (-1 : Int32)))]) (rest := []) rfl rfl (Nat.le_of_ble_eq_true rfl) dX1_decisionAmong_115 ⟨Nat.le_of_ble_eq_true rfl, Nat.le_of_ble_eq_true rfl⟩ (fun r_13 s_12 hw => ?_)
      refine g_iload_n C 0 dX1_decisionAmong_118 rfl rfl ?_
      refine g_callSi C (c_J6_bitCount_0f7a4 l G hO hwin hw) kJ6_bitCount_0f7a4 tw_481 rfl rfl ⟨Nat.le_of_ble_eq_true rfl, Nat.le_of_ble_eq_true rfl⟩ (As := [.int x2_1]) (rest := [.int r_13]) rfl rfl (Nat.le_of_ble_eq_true rfl) dX1_decisionAmong_119 ⟨Nat.le_of_ble_eq_true rfl, Nat.le_of_ble_eq_true rfl⟩ (fun r_15 s_14 hw => ?_)
      refine g_callSi C (c_X1_majority l G hO hwin hw) kX1_majority tw_487 rfl rfl ⟨Nat.le_of_ble_eq_true rfl, Nat.le_of_ble_eq_true rfl⟩ (As := [.int r_13, .int r_15]) (rest := []) rfl rfl (Nat.le_of_ble_eq_true rfl) dX1_decisionAmong_122 ⟨Nat.le_of_ble_eq_true rfl, Nat.le_of_ble_eq_true rfl⟩ (fun r_17 s_16 hw => ?_)
      exact g_iret C hr hlk hw dX1_decisionAmong_125
  · replace hw := hw.1 c_18
    refine g_iconst C (2 : Int32) dX1_decisionAmong_4 (by decide) ?_
    exact g_iret C hr hlk hw dX1_decisionAmong_5

set_option maxHeartbeats 4000000 in
set_option maxRecDepth 100000 in
theorem c_X1_decisionOn (l : Launch) (G : Gp) (hO : gOK G) (hwin : ∀ k, 0 ≤ k → k < 17 → k ∈ gks G) {k0 : Nat} {x1 : Int32} (hk0 : isPol k0) {st : St} {Q : Int32 → St → Prop} (hw : wp_X1_decisionOn k0 x1 st Q) : MI l G yX1_decisionOn cX1_decisionOn 2 (some .int) { frames := 2, cells := 0, slots := 0, locals := 43 } [.ref (gh G k0), .int x1] st Q := by
  refine MI.of (own := RX1) (lo := 0) (hi := 17) hO hwin (by decide) rfl (Nat.le_of_ble_eq_true rfl) (fun p e s m args below meth c C hr hlk => ?_)
  refine g_lv (lv' := [(0, .ref (gh G k0)), (1, .int x1)]) rfl ?_
  unfold wp_X1_decisionOn at hw
  refine g_aload_n C 0 dX1_decisionOn_0 rfl rfl ?_
  refine g_aload_n C 0 dX1_decisionOn_1 rfl rfl ?_
  refine g_iload_n C 1 dX1_decisionOn_2 rfl rfl ?_
  refine g_callVi C (c_X1_applying l G hO hwin hk0 hw) kX1_applying tw_470 (Rv.of C (C.pol hk0) (isPol.cell hk0 G _) (ci := 1) rfl) rfl rfl ⟨Nat.le_of_ble_eq_true rfl, Nat.le_of_ble_eq_true rfl⟩ (As := [.int x1]) (rest := [.ref (gh G k0)]) rfl rfl (Nat.le_of_ble_eq_true rfl) dX1_decisionOn_3 ⟨Nat.le_of_ble_eq_true rfl, Nat.le_of_ble_eq_true rfl⟩ (fun r_2 s_1 hw => ?_)
  refine g_callVi C (c_X1_decisionAmong l G hO hwin hk0 hw) kX1_decisionAmong tw_474 (Rv.of C (C.pol hk0) (isPol.cell hk0 G _) (ci := 1) rfl) rfl rfl ⟨Nat.le_of_ble_eq_true rfl, Nat.le_of_ble_eq_true rfl⟩ (As := [.int r_2]) (rest := []) rfl rfl (Nat.le_of_ble_eq_true rfl) dX1_decisionOn_6 ⟨Nat.le_of_ble_eq_true rfl, Nat.le_of_ble_eq_true rfl⟩ (fun r_4 s_3 hw => ?_)
  exact g_iret C hr hlk hw dX1_decisionOn_9
end
