theorem dX4_applicableRules_8 : decode cX4_applicableRules 8 = .ok (.invokestatic 147, 3) := by decide +kernel
theorem dX4_applicableRules_11 : decode cX4_applicableRules 11 = .ok (.ifCond .ne 5, 3) := by decide +kernel
theorem dX4_applicableRules_14 : decode cX4_applicableRules 14 = .ok (.iconst (-1), 1) := by decide +kernel
theorem dX4_applicableRules_15 : decode cX4_applicableRules 15 = .ok (.ireturn, 1) := by decide +kernel
theorem dX4_applicableRules_16 : decode cX4_applicableRules 16 = .ok (.aload_n 0, 1) := by decide +kernel
theorem dX4_applicableRules_17 : decode cX4_applicableRules 17 = .ok (.iload_n 1, 1) := by decide +kernel
theorem dX4_applicableRules_18 : decode cX4_applicableRules 18 = .ok (.invokevirtual 90, 3) := by decide +kernel
theorem dX4_applicableRules_21 : decode cX4_applicableRules 21 = .ok (.iload_n 2, 1) := by decide +kernel
theorem dX4_applicableRules_22 : decode cX4_applicableRules 22 = .ok (.invokevirtual 160, 3) := by decide +kernel
theorem dX4_applicableRules_25 : decode cX4_applicableRules 25 = .ok (.invokestatic 163, 3) := by decide +kernel
theorem dX4_applicableRules_28 : decode cX4_applicableRules 28 = .ok (.ireturn, 1) := by decide +kernel
theorem dX4_requestsDecided_0 : decode cX4_requestsDecided 0 = .ok (.iconst 0, 1) := by decide +kernel
theorem dX4_requestsDecided_1 : decode cX4_requestsDecided 1 = .ok (.istore_n 2, 1) := by decide +kernel
theorem dX4_requestsDecided_2 : decode cX4_requestsDecided 2 = .ok (.iconst 0, 1) := by decide +kernel
theorem dX4_requestsDecided_3 : decode cX4_requestsDecided 3 = .ok (.istore_n 3, 1) := by decide +kernel
theorem dX4_requestsDecided_4 : decode cX4_requestsDecided 4 = .ok (.iload_n 3, 1) := by decide +kernel
theorem dX4_requestsDecided_5 : decode cX4_requestsDecided 5 = .ok (.sipush 1024, 3) := by decide +kernel
theorem dX4_requestsDecided_8 : decode cX4_requestsDecided 8 = .ok (.if_icmp .ge 21, 3) := by decide +kernel
theorem dX4_requestsDecided_11 : decode cX4_requestsDecided 11 = .ok (.aload_n 0, 1) := by decide +kernel
theorem dX4_requestsDecided_12 : decode cX4_requestsDecided 12 = .ok (.iload_n 3, 1) := by decide +kernel
theorem dX4_requestsDecided_13 : decode cX4_requestsDecided 13 = .ok (.invokevirtual 150, 3) := by decide +kernel
theorem dX4_requestsDecided_16 : decode cX4_requestsDecided 16 = .ok (.iload_n 1, 1) := by decide +kernel
theorem dX4_requestsDecided_17 : decode cX4_requestsDecided 17 = .ok (.if_icmp .ne 6, 3) := by decide +kernel
theorem dX4_requestsDecided_20 : decode cX4_requestsDecided 20 = .ok (.iinc 2 1, 3) := by decide +kernel
theorem dX4_requestsDecided_23 : decode cX4_requestsDecided 23 = .ok (.iinc 3 1, 3) := by decide +kernel
theorem dX4_requestsDecided_26 : decode cX4_requestsDecided 26 = .ok (.goto (-22), 3) := by decide +kernel
theorem dX4_requestsDecided_29 : decode cX4_requestsDecided 29 = .ok (.iload_n 2, 1) := by decide +kernel
theorem dX4_requestsDecided_30 : decode cX4_requestsDecided 30 = .ok (.ireturn, 1) := by decide +kernel
theorem dX4_gainCount_0 : decode cX4_gainCount 0 = .ok (.aload_n 0, 1) := by decide +kernel
theorem dX4_gainCount_1 : decode cX4_gainCount 1 = .ok (.getfield 16, 3) := by decide +kernel
theorem dX4_gainCount_4 : decode cX4_gainCount 4 = .ok (.aload_n 0, 1) := by decide +kernel
theorem dX4_gainCount_5 : decode cX4_gainCount 5 = .ok (.getfield 10, 3) := by decide +kernel
theorem dX4_gainCount_8 : decode cX4_gainCount 8 = .ok (.invokestatic 168, 3) := by decide +kernel
theorem dX4_gainCount_11 : decode cX4_gainCount 11 = .ok (.ireturn, 1) := by decide +kernel
theorem dX4_lossCount_0 : decode cX4_lossCount 0 = .ok (.aload_n 0, 1) := by decide +kernel
theorem dX4_lossCount_1 : decode cX4_lossCount 1 = .ok (.getfield 10, 3) := by decide +kernel
theorem dX4_lossCount_4 : decode cX4_lossCount 4 = .ok (.aload_n 0, 1) := by decide +kernel
theorem dX4_lossCount_5 : decode cX4_lossCount 5 = .ok (.getfield 16, 3) := by decide +kernel
theorem dX4_lossCount_8 : decode cX4_lossCount 8 = .ok (.invokestatic 168, 3) := by decide +kernel
theorem dX4_lossCount_11 : decode cX4_lossCount 11 = .ok (.ireturn, 1) := by decide +kernel
theorem dX4_gainCountOf_0 : decode cX4_gainCountOf 0 = .ok (.iload_n 1, 1) := by decide +kernel
theorem dX4_gainCountOf_1 : decode cX4_gainCountOf 1 = .ok (.invokestatic 123, 3) := by decide +kernel
theorem dX4_gainCountOf_4 : decode cX4_gainCountOf 4 = .ok (.ifCond .eq 16, 3) := by decide +kernel
theorem dX4_gainCountOf_7 : decode cX4_gainCountOf 7 = .ok (.iload_n 2, 1) := by decide +kernel
theorem dX4_gainCountOf_8 : decode cX4_gainCountOf 8 = .ok (.ifCond .lt 12, 3) := by decide +kernel
theorem dX4_gainCountOf_11 : decode cX4_gainCountOf 11 = .ok (.iload_n 2, 1) := by decide +kernel
theorem dX4_gainCountOf_12 : decode cX4_gainCountOf 12 = .ok (.getstatic 172, 3) := by decide +kernel
theorem dX4_gainCountOf_15 : decode cX4_gainCountOf 15 = .ok (.iload_n 1, 1) := by decide +kernel
theorem dX4_gainCountOf_16 : decode cX4_gainCountOf 16 = .ok (.iaload, 1) := by decide +kernel
theorem dX4_gainCountOf_17 : decode cX4_gainCountOf 17 = .ok (.if_icmp .lt 5, 3) := by decide +kernel
theorem dX4_gainCountOf_20 : decode cX4_gainCountOf 20 = .ok (.iconst (-1), 1) := by decide +kernel
theorem dX4_gainCountOf_21 : decode cX4_gainCountOf 21 = .ok (.ireturn, 1) := by decide +kernel
theorem dX4_gainCountOf_22 : decode cX4_gainCountOf 22 = .ok (.iconst 0, 1) := by decide +kernel
theorem dX4_gainCountOf_23 : decode cX4_gainCountOf 23 = .ok (.istore_n 3, 1) := by decide +kernel
theorem dX4_gainCountOf_24 : decode cX4_gainCountOf 24 = .ok (.iconst 0, 1) := by decide +kernel
theorem dX4_gainCountOf_25 : decode cX4_gainCountOf 25 = .ok (.istore 4, 2) := by decide +kernel
theorem dX4_gainCountOf_27 : decode cX4_gainCountOf 27 = .ok (.iload 4, 2) := by decide +kernel
theorem dX4_gainCountOf_29 : decode cX4_gainCountOf 29 = .ok (.sipush 1024, 3) := by decide +kernel
theorem dX4_gainCountOf_32 : decode cX4_gainCountOf 32 = .ok (.if_icmp .ge 38, 3) := by decide +kernel
theorem dX4_gainCountOf_35 : decode cX4_gainCountOf 35 = .ok (.iload 4, 2) := by decide +kernel
theorem dX4_gainCountOf_37 : decode cX4_gainCountOf 37 = .ok (.iload_n 1, 1) := by decide +kernel
theorem dX4_gainCountOf_38 : decode cX4_gainCountOf 38 = .ok (.invokestatic 176, 3) := by decide +kernel
theorem dX4_gainCountOf_41 : decode cX4_gainCountOf 41 = .ok (.iload_n 2, 1) := by decide +kernel
theorem dX4_gainCountOf_42 : decode cX4_gainCountOf 42 = .ok (.if_icmp .ne 22, 3) := by decide +kernel
theorem dX4_gainCountOf_45 : decode cX4_gainCountOf 45 = .ok (.aload_n 0, 1) := by decide +kernel
theorem dX4_gainCountOf_46 : decode cX4_gainCountOf 46 = .ok (.getfield 16, 3) := by decide +kernel
theorem dX4_gainCountOf_49 : decode cX4_gainCountOf 49 = .ok (.aload_n 0, 1) := by decide +kernel
theorem dX4_gainCountOf_50 : decode cX4_gainCountOf 50 = .ok (.getfield 10, 3) := by decide +kernel
theorem dX4_gainCountOf_53 : decode cX4_gainCountOf 53 = .ok (.iload 4, 2) := by decide +kernel
theorem dX4_gainCountOf_55 : decode cX4_gainCountOf 55 = .ok (.invokestatic 179, 3) := by decide +kernel
theorem dX4_gainCountOf_58 : decode cX4_gainCountOf 58 = .ok (.ifCond .eq 6, 3) := by decide +kernel
theorem dX4_gainCountOf_61 : decode cX4_gainCountOf 61 = .ok (.iinc 3 1, 3) := by decide +kernel
theorem dX4_gainCountOf_64 : decode cX4_gainCountOf 64 = .ok (.iinc 4 1, 3) := by decide +kernel
theorem dX4_gainCountOf_67 : decode cX4_gainCountOf 67 = .ok (.goto (-40), 3) := by decide +kernel
theorem dX4_gainCountOf_70 : decode cX4_gainCountOf 70 = .ok (.iload_n 3, 1) := by decide +kernel
theorem dX4_gainCountOf_71 : decode cX4_gainCountOf 71 = .ok (.ireturn, 1) := by decide +kernel
theorem dX4_nextGain_0 : decode cX4_nextGain 0 = .ok (.iload_n 1, 1) := by decide +kernel
theorem dX4_nextGain_1 : decode cX4_nextGain 1 = .ok (.invokestatic 147, 3) := by decide +kernel
theorem dX4_nextGain_4 : decode cX4_nextGain 4 = .ok (.ifCond .eq 18, 3) := by decide +kernel
theorem dX4_nextGain_7 : decode cX4_nextGain 7 = .ok (.aload_n 0, 1) := by decide +kernel
theorem dX4_nextGain_8 : decode cX4_nextGain 8 = .ok (.getfield 16, 3) := by decide +kernel
theorem dX4_nextGain_11 : decode cX4_nextGain 11 = .ok (.aload_n 0, 1) := by decide +kernel
theorem dX4_nextGain_12 : decode cX4_nextGain 12 = .ok (.getfield 10, 3) := by decide +kernel
theorem dX4_nextGain_15 : decode cX4_nextGain 15 = .ok (.iload_n 1, 1) := by decide +kernel
theorem dX4_nextGain_16 : decode cX4_nextGain 16 = .ok (.invokestatic 183, 3) := by decide +kernel
theorem dX4_nextGain_19 : decode cX4_nextGain 19 = .ok (.goto 4, 3) := by decide +kernel
theorem dX4_nextGain_22 : decode cX4_nextGain 22 = .ok (.iconst (-1), 1) := by decide +kernel
theorem dX4_nextGain_23 : decode cX4_nextGain 23 = .ok (.ireturn, 1) := by decide +kernel
theorem dX4_nextLoss_0 : decode cX4_nextLoss 0 = .ok (.iload_n 1, 1) := by decide +kernel
theorem dX4_nextLoss_1 : decode cX4_nextLoss 1 = .ok (.invokestatic 147, 3) := by decide +kernel
theorem dX4_nextLoss_4 : decode cX4_nextLoss 4 = .ok (.ifCond .eq 18, 3) := by decide +kernel
theorem dX4_nextLoss_7 : decode cX4_nextLoss 7 = .ok (.aload_n 0, 1) := by decide +kernel
theorem dX4_nextLoss_8 : decode cX4_nextLoss 8 = .ok (.getfield 10, 3) := by decide +kernel
theorem dX4_nextLoss_11 : decode cX4_nextLoss 11 = .ok (.aload_n 0, 1) := by decide +kernel
theorem dX4_nextLoss_12 : decode cX4_nextLoss 12 = .ok (.getfield 16, 3) := by decide +kernel
theorem dX4_nextLoss_15 : decode cX4_nextLoss 15 = .ok (.iload_n 1, 1) := by decide +kernel
theorem dX4_nextLoss_16 : decode cX4_nextLoss 16 = .ok (.invokestatic 183, 3) := by decide +kernel
theorem dX4_nextLoss_19 : decode cX4_nextLoss 19 = .ok (.goto 4, 3) := by decide +kernel
theorem dX4_nextLoss_22 : decode cX4_nextLoss 22 = .ok (.iconst (-1), 1) := by decide +kernel
theorem dX4_nextLoss_23 : decode cX4_nextLoss 23 = .ok (.ireturn, 1) := by decide +kernel
theorem dX4_transitionCount_0 : decode cX4_transitionCount 0 = .ok (.iload_n 1, 1) := by decide +kernel
theorem dX4_transitionCount_1 : decode cX4_transitionCount 1 = .ok (.invokestatic 153, 3) := by decide +kernel
theorem dX4_transitionCount_4 : decode cX4_transitionCount 4 = .ok (.ifCond .eq 10, 3) := by decide +kernel
theorem dX4_transitionCount_7 : decode cX4_transitionCount 7 = .ok (.iload_n 2, 1) := by decide +kernel
theorem dX4_transitionCount_8 : decode cX4_transitionCount 8 = .ok (.invokestatic 153, 3) := by decide +kernel
theorem dX4_transitionCount_11 : decode cX4_transitionCount 11 = .ok (.ifCond .ne 5, 3) := by decide +kernel
theorem dX4_transitionCount_14 : decode cX4_transitionCount 14 = .ok (.iconst (-1), 1) := by decide +kernel
theorem dX4_transitionCount_15 : decode cX4_transitionCount 15 = .ok (.ireturn, 1) := by decide +kernel
theorem dX4_transitionCount_16 : decode cX4_transitionCount 16 = .ok (.iconst 0, 1) := by decide +kernel
theorem dX4_transitionCount_17 : decode cX4_transitionCount 17 = .ok (.istore_n 3, 1) := by decide +kernel
theorem dX4_transitionCount_18 : decode cX4_transitionCount 18 = .ok (.iconst 0, 1) := by decide +kernel
theorem dX4_transitionCount_19 : decode cX4_transitionCount 19 = .ok (.istore 4, 2) := by decide +kernel
theorem dX4_transitionCount_21 : decode cX4_transitionCount 21 = .ok (.iload 4, 2) := by decide +kernel
theorem dX4_transitionCount_23 : decode cX4_transitionCount 23 = .ok (.sipush 1024, 3) := by decide +kernel
theorem dX4_transitionCount_26 : decode cX4_transitionCount 26 = .ok (.if_icmp .ge 38, 3) := by decide +kernel
theorem dX4_transitionCount_29 : decode cX4_transitionCount 29 = .ok (.aload_n 0, 1) := by decide +kernel
theorem dX4_transitionCount_30 : decode cX4_transitionCount 30 = .ok (.getfield 10, 3) := by decide +kernel
theorem dX4_transitionCount_33 : decode cX4_transitionCount 33 = .ok (.iload 4, 2) := by decide +kernel
theorem dX4_transitionCount_35 : decode cX4_transitionCount 35 = .ok (.invokevirtual 150, 3) := by decide +kernel
theorem dX4_transitionCount_38 : decode cX4_transitionCount 38 = .ok (.iload_n 1, 1) := by decide +kernel
theorem dX4_transitionCount_39 : decode cX4_transitionCount 39 = .ok (.if_icmp .ne 19, 3) := by decide +kernel
theorem dX4_transitionCount_42 : decode cX4_transitionCount 42 = .ok (.aload_n 0, 1) := by decide +kernel
theorem dX4_transitionCount_43 : decode cX4_transitionCount 43 = .ok (.getfield 16, 3) := by decide +kernel
theorem dX4_transitionCount_46 : decode cX4_transitionCount 46 = .ok (.iload 4, 2) := by decide +kernel
theorem dX4_transitionCount_48 : decode cX4_transitionCount 48 = .ok (.invokevirtual 150, 3) := by decide +kernel
theorem dX4_transitionCount_51 : decode cX4_transitionCount 51 = .ok (.iload_n 2, 1) := by decide +kernel
theorem dX4_transitionCount_52 : decode cX4_transitionCount 52 = .ok (.if_icmp .ne 6, 3) := by decide +kernel
theorem dX4_transitionCount_55 : decode cX4_transitionCount 55 = .ok (.iinc 3 1, 3) := by decide +kernel
theorem dX4_transitionCount_58 : decode cX4_transitionCount 58 = .ok (.iinc 4 1, 3) := by decide +kernel
theorem dX4_transitionCount_61 : decode cX4_transitionCount 61 = .ok (.goto (-40), 3) := by decide +kernel
theorem dX4_transitionCount_64 : decode cX4_transitionCount 64 = .ok (.iload_n 3, 1) := by decide +kernel
theorem dX4_transitionCount_65 : decode cX4_transitionCount 65 = .ok (.ireturn, 1) := by decide +kernel
theorem dX4_grantedShareBits_0 : decode cX4_grantedShareBits 0 = .ok (.iload_n 1, 1) := by decide +kernel
theorem dX4_grantedShareBits_1 : decode cX4_grantedShareBits 1 = .ok (.invokestatic 83, 3) := by decide +kernel
theorem dX4_grantedShareBits_4 : decode cX4_grantedShareBits 4 = .ok (.ifCond .ne 5, 3) := by decide +kernel
theorem dX4_grantedShareBits_7 : decode cX4_grantedShareBits 7 = .ok (.iconst (-1), 1) := by decide +kernel
theorem dX4_grantedShareBits_8 : decode cX4_grantedShareBits 8 = .ok (.ireturn, 1) := by decide +kernel
theorem dX4_grantedShareBits_9 : decode cX4_grantedShareBits 9 = .ok (.aload_n 0, 1) := by decide +kernel
theorem dX4_grantedShareBits_10 : decode cX4_grantedShareBits 10 = .ok (.iload_n 1, 1) := by decide +kernel
theorem dX4_grantedShareBits_11 : decode cX4_grantedShareBits 11 = .ok (.invokevirtual 90, 3) := by decide +kernel
theorem dX4_grantedShareBits_14 : decode cX4_grantedShareBits 14 = .ok (.iconst 0, 1) := by decide +kernel
theorem dX4_grantedShareBits_15 : decode cX4_grantedShareBits 15 = .ok (.invokestatic 156, 3) := by decide +kernel
theorem dX4_grantedShareBits_18 : decode cX4_grantedShareBits 18 = .ok (.invokestatic 187, 3) := by decide +kernel
theorem dX4_grantedShareBits_21 : decode cX4_grantedShareBits 21 = .ok (.ireturn, 1) := by decide +kernel
theorem dX4_isGrantedOnlyBy_0 : decode cX4_isGrantedOnlyBy 0 = .ok (.aload_n 0, 1) := by decide +kernel
theorem dX4_isGrantedOnlyBy_1 : decode cX4_isGrantedOnlyBy 1 = .ok (.iload_n 2, 1) := by decide +kernel
theorem dX4_isGrantedOnlyBy_2 : decode cX4_isGrantedOnlyBy 2 = .ok (.invokevirtual 150, 3) := by decide +kernel
theorem dX4_isGrantedOnlyBy_5 : decode cX4_isGrantedOnlyBy 5 = .ok (.ifCond .ne 15, 3) := by decide +kernel
theorem dX4_isGrantedOnlyBy_8 : decode cX4_isGrantedOnlyBy 8 = .ok (.aload_n 1, 1) := by decide +kernel
theorem dX4_isGrantedOnlyBy_9 : decode cX4_isGrantedOnlyBy 9 = .ok (.iload_n 2, 1) := by decide +kernel
theorem dX4_isGrantedOnlyBy_10 : decode cX4_isGrantedOnlyBy 10 = .ok (.invokevirtual 150, 3) := by decide +kernel
theorem dX4_isGrantedOnlyBy_13 : decode cX4_isGrantedOnlyBy 13 = .ok (.ifCond .eq 7, 3) := by decide +kernel
theorem dX4_isGrantedOnlyBy_16 : decode cX4_isGrantedOnlyBy 16 = .ok (.iconst 1, 1) := by decide +kernel
theorem dX4_isGrantedOnlyBy_17 : decode cX4_isGrantedOnlyBy 17 = .ok (.goto 4, 3) := by decide +kernel
theorem dX4_isGrantedOnlyBy_20 : decode cX4_isGrantedOnlyBy 20 = .ok (.iconst 0, 1) := by decide +kernel
theorem dX4_isGrantedOnlyBy_21 : decode cX4_isGrantedOnlyBy 21 = .ok (.ireturn, 1) := by decide +kernel
theorem dX4_countGranted_0 : decode cX4_countGranted 0 = .ok (.iconst 0, 1) := by decide +kernel
theorem dX4_countGranted_1 : decode cX4_countGranted 1 = .ok (.istore_n 2, 1) := by decide +kernel
theorem dX4_countGranted_2 : decode cX4_countGranted 2 = .ok (.iconst 0, 1) := by decide +kernel
theorem dX4_countGranted_3 : decode cX4_countGranted 3 = .ok (.istore_n 3, 1) := by decide +kernel
theorem dX4_countGranted_4 : decode cX4_countGranted 4 = .ok (.iload_n 3, 1) := by decide +kernel
theorem dX4_countGranted_5 : decode cX4_countGranted 5 = .ok (.sipush 1024, 3) := by decide +kernel
theorem dX4_countGranted_8 : decode cX4_countGranted 8 = .ok (.if_icmp .ge 21, 3) := by decide +kernel
theorem dX4_countGranted_11 : decode cX4_countGranted 11 = .ok (.aload_n 0, 1) := by decide +kernel
theorem dX4_countGranted_12 : decode cX4_countGranted 12 = .ok (.aload_n 1, 1) := by decide +kernel
theorem dX4_countGranted_13 : decode cX4_countGranted 13 = .ok (.iload_n 3, 1) := by decide +kernel
theorem dX4_countGranted_14 : decode cX4_countGranted 14 = .ok (.invokestatic 179, 3) := by decide +kernel
theorem dX4_countGranted_17 : decode cX4_countGranted 17 = .ok (.ifCond .eq 6, 3) := by decide +kernel
theorem dX4_countGranted_20 : decode cX4_countGranted 20 = .ok (.iinc 2 1, 3) := by decide +kernel
theorem dX4_countGranted_23 : decode cX4_countGranted 23 = .ok (.iinc 3 1, 3) := by decide +kernel
theorem dX4_countGranted_26 : decode cX4_countGranted 26 = .ok (.goto (-22), 3) := by decide +kernel
theorem dX4_countGranted_29 : decode cX4_countGranted 29 = .ok (.iload_n 2, 1) := by decide +kernel
theorem dX4_countGranted_30 : decode cX4_countGranted 30 = .ok (.ireturn, 1) := by decide +kernel
theorem dX4_nextGranted_0 : decode cX4_nextGranted 0 = .ok (.iload_n 2, 1) := by decide +kernel
theorem dX4_nextGranted_1 : decode cX4_nextGranted 1 = .ok (.istore_n 3, 1) := by decide +kernel
theorem dX4_nextGranted_2 : decode cX4_nextGranted 2 = .ok (.iload_n 3, 1) := by decide +kernel
theorem dX4_nextGranted_3 : decode cX4_nextGranted 3 = .ok (.sipush 1024, 3) := by decide +kernel
theorem dX4_nextGranted_6 : decode cX4_nextGranted 6 = .ok (.if_icmp .ge 20, 3) := by decide +kernel
theorem dX4_nextGranted_9 : decode cX4_nextGranted 9 = .ok (.aload_n 0, 1) := by decide +kernel
theorem dX4_nextGranted_10 : decode cX4_nextGranted 10 = .ok (.aload_n 1, 1) := by decide +kernel
theorem dX4_nextGranted_11 : decode cX4_nextGranted 11 = .ok (.iload_n 3, 1) := by decide +kernel
theorem dX4_nextGranted_12 : decode cX4_nextGranted 12 = .ok (.invokestatic 179, 3) := by decide +kernel
theorem dX4_nextGranted_15 : decode cX4_nextGranted 15 = .ok (.ifCond .eq 5, 3) := by decide +kernel
theorem dX4_nextGranted_18 : decode cX4_nextGranted 18 = .ok (.iload_n 3, 1) := by decide +kernel
theorem dX4_nextGranted_19 : decode cX4_nextGranted 19 = .ok (.ireturn, 1) := by decide +kernel
theorem dX4_nextGranted_20 : decode cX4_nextGranted 20 = .ok (.iinc 3 1, 3) := by decide +kernel
theorem dX4_nextGranted_23 : decode cX4_nextGranted 23 = .ok (.goto (-21), 3) := by decide +kernel
theorem dX4_nextGranted_26 : decode cX4_nextGranted 26 = .ok (.bipush (-4), 2) := by decide +kernel
theorem dX4_nextGranted_28 : decode cX4_nextGranted 28 = .ok (.ireturn, 1) := by decide +kernel
theorem dX4_shareBits_0 : decode cX4_shareBits 0 = .ok (.iload_n 0, 1) := by decide +kernel
theorem dX4_shareBits_1 : decode cX4_shareBits 1 = .ok (.ifCond .gt 5, 3) := by decide +kernel
theorem dX4_shareBits_4 : decode cX4_shareBits 4 = .ok (.iconst 0, 1) := by decide +kernel
theorem dX4_shareBits_5 : decode cX4_shareBits 5 = .ok (.ireturn, 1) := by decide +kernel
theorem dX4_shareBits_6 : decode cX4_shareBits 6 = .ok (.bipush 31, 2) := by decide +kernel
theorem dX4_shareBits_8 : decode cX4_shareBits 8 = .ok (.iload_n 0, 1) := by decide +kernel
theorem dX4_shareBits_9 : decode cX4_shareBits 9 = .ok (.invokestatic 190, 3) := by decide +kernel
theorem dX4_shareBits_12 : decode cX4_shareBits 12 = .ok (.isub, 1) := by decide +kernel
theorem dX4_shareBits_13 : decode cX4_shareBits 13 = .ok (.istore_n 1, 1) := by decide +kernel
theorem dX4_shareBits_14 : decode cX4_shareBits 14 = .ok (.bipush 117, 2) := by decide +kernel
theorem dX4_shareBits_16 : decode cX4_shareBits 16 = .ok (.iload_n 1, 1) := by decide +kernel
theorem dX4_shareBits_17 : decode cX4_shareBits 17 = .ok (.iadd, 1) := by decide +kernel
theorem dX4_shareBits_18 : decode cX4_shareBits 18 = .ok (.istore_n 2, 1) := by decide +kernel
theorem dX4_shareBits_19 : decode cX4_shareBits 19 = .ok (.iload_n 0, 1) := by decide +kernel
theorem dX4_shareBits_20 : decode cX4_shareBits 20 = .ok (.bipush 23, 2) := by decide +kernel
theorem dX4_shareBits_22 : decode cX4_shareBits 22 = .ok (.iload_n 1, 1) := by decide +kernel
theorem dX4_shareBits_23 : decode cX4_shareBits 23 = .ok (.isub, 1) := by decide +kernel
theorem dX4_shareBits_24 : decode cX4_shareBits 24 = .ok (.ishl, 1) := by decide +kernel
theorem dX4_shareBits_25 : decode cX4_shareBits 25 = .ok (.ldc 193, 2) := by decide +kernel
theorem dX4_shareBits_27 : decode cX4_shareBits 27 = .ok (.iand, 1) := by decide +kernel
theorem dX4_shareBits_28 : decode cX4_shareBits 28 = .ok (.istore_n 3, 1) := by decide +kernel
theorem dX4_shareBits_29 : decode cX4_shareBits 29 = .ok (.iload_n 2, 1) := by decide +kernel
theorem dX4_shareBits_30 : decode cX4_shareBits 30 = .ok (.bipush 23, 2) := by decide +kernel
theorem dX4_shareBits_32 : decode cX4_shareBits 32 = .ok (.ishl, 1) := by decide +kernel
theorem dX4_shareBits_33 : decode cX4_shareBits 33 = .ok (.iload_n 3, 1) := by decide +kernel
theorem dX4_shareBits_34 : decode cX4_shareBits 34 = .ok (.ior, 1) := by decide +kernel
theorem dX4_shareBits_35 : decode cX4_shareBits 35 = .ok (.ireturn, 1) := by decide +kernel
theorem dX4_isRedundant_0 : decode cX4_isRedundant 0 = .ok (.aload_n 0, 1) := by decide +kernel
theorem dX4_isRedundant_1 : decode cX4_isRedundant 1 = .ok (.iload_n 1, 1) := by decide +kernel
theorem dX4_isRedundant_2 : decode cX4_isRedundant 2 = .ok (.iload_n 2, 1) := by decide +kernel
theorem dX4_isRedundant_3 : decode cX4_isRedundant 3 = .ok (.invokevirtual 102, 3) := by decide +kernel
theorem dX4_isRedundant_6 : decode cX4_isRedundant 6 = .ok (.ifCond .ne 5, 3) := by decide +kernel
theorem dX4_isRedundant_9 : decode cX4_isRedundant 9 = .ok (.iconst (-1), 1) := by decide +kernel
theorem dX4_isRedundant_10 : decode cX4_isRedundant 10 = .ok (.ireturn, 1) := by decide +kernel
theorem dX4_isRedundant_11 : decode cX4_isRedundant 11 = .ok (.aload_n 0, 1) := by decide +kernel
theorem dX4_isRedundant_12 : decode cX4_isRedundant 12 = .ok (.iload_n 1, 1) := by decide +kernel
theorem dX4_isRedundant_13 : decode cX4_isRedundant 13 = .ok (.invokevirtual 90, 3) := by decide +kernel
theorem dX4_isRedundant_16 : decode cX4_isRedundant 16 = .ok (.iload_n 2, 1) := by decide +kernel
theorem dX4_isRedundant_17 : decode cX4_isRedundant 17 = .ok (.invokestatic 194, 3) := by decide +kernel
theorem dX4_isRedundant_20 : decode cX4_isRedundant 20 = .ok (.bipush (-4), 2) := by decide +kernel
theorem dX4_isRedundant_22 : decode cX4_isRedundant 22 = .ok (.if_icmp .ne 7, 3) := by decide +kernel
theorem dX4_isRedundant_25 : decode cX4_isRedundant 25 = .ok (.iconst 1, 1) := by decide +kernel
theorem dX4_isRedundant_26 : decode cX4_isRedundant 26 = .ok (.goto 4, 3) := by decide +kernel
theorem dX4_isRedundant_29 : decode cX4_isRedundant 29 = .ok (.iconst 0, 1) := by decide +kernel
theorem dX4_isRedundant_30 : decode cX4_isRedundant 30 = .ok (.ireturn, 1) := by decide +kernel
theorem dX4_witness_0 : decode cX4_witness 0 = .ok (.aload_n 0, 1) := by decide +kernel
theorem dX4_witness_1 : decode cX4_witness 1 = .ok (.iload_n 1, 1) := by decide +kernel
theorem dX4_witness_2 : decode cX4_witness 2 = .ok (.iload_n 2, 1) := by decide +kernel
theorem dX4_witness_3 : decode cX4_witness 3 = .ok (.invokevirtual 102, 3) := by decide +kernel
theorem dX4_witness_6 : decode cX4_witness 6 = .ok (.ifCond .eq 15, 3) := by decide +kernel
theorem dX4_witness_9 : decode cX4_witness 9 = .ok (.aload_n 0, 1) := by decide +kernel
theorem dX4_witness_10 : decode cX4_witness 10 = .ok (.iload_n 1, 1) := by decide +kernel
theorem dX4_witness_11 : decode cX4_witness 11 = .ok (.invokevirtual 90, 3) := by decide +kernel
theorem dX4_witness_14 : decode cX4_witness 14 = .ok (.iload_n 2, 1) := by decide +kernel
theorem dX4_witness_15 : decode cX4_witness 15 = .ok (.invokestatic 194, 3) := by decide +kernel
theorem dX4_witness_18 : decode cX4_witness 18 = .ok (.goto 4, 3) := by decide +kernel
theorem dX4_witness_21 : decode cX4_witness 21 = .ok (.iconst (-1), 1) := by decide +kernel
theorem dX4_witness_22 : decode cX4_witness 22 = .ok (.ireturn, 1) := by decide +kernel
theorem dX4_irredundantCore_0 : decode cX4_irredundantCore 0 = .ok (.iload_n 1, 1) := by decide +kernel
theorem dX4_irredundantCore_1 : decode cX4_irredundantCore 1 = .ok (.invokestatic 83, 3) := by decide +kernel
theorem dX4_irredundantCore_4 : decode cX4_irredundantCore 4 = .ok (.ifCond .ne 5, 3) := by decide +kernel
theorem dX4_irredundantCore_7 : decode cX4_irredundantCore 7 = .ok (.iconst (-1), 1) := by decide +kernel
theorem dX4_irredundantCore_8 : decode cX4_irredundantCore 8 = .ok (.ireturn, 1) := by decide +kernel
theorem dX4_irredundantCore_9 : decode cX4_irredundantCore 9 = .ok (.aload_n 0, 1) := by decide +kernel
theorem dX4_irredundantCore_10 : decode cX4_irredundantCore 10 = .ok (.iload_n 1, 1) := by decide +kernel
theorem dX4_irredundantCore_11 : decode cX4_irredundantCore 11 = .ok (.invokevirtual 90, 3) := by decide +kernel
theorem dX4_irredundantCore_14 : decode cX4_irredundantCore 14 = .ok (.astore_n 2, 1) := by decide +kernel
theorem dX4_irredundantCore_15 : decode cX4_irredundantCore 15 = .ok (.aload_n 0, 1) := by decide +kernel
theorem dX4_irredundantCore_16 : decode cX4_irredundantCore 16 = .ok (.getfield 36, 3) := by decide +kernel
theorem dX4_irredundantCore_19 : decode cX4_irredundantCore 19 = .ok (.invokevirtual 197, 3) := by decide +kernel
theorem dX4_irredundantCore_22 : decode cX4_irredundantCore 22 = .ok (.iconst 0, 1) := by decide +kernel
theorem dX4_irredundantCore_23 : decode cX4_irredundantCore 23 = .ok (.istore_n 3, 1) := by decide +kernel
theorem dX4_irredundantCore_24 : decode cX4_irredundantCore 24 = .ok (.iload_n 3, 1) := by decide +kernel
theorem dX4_irredundantCore_25 : decode cX4_irredundantCore 25 = .ok (.sipush 1024, 3) := by decide +kernel
theorem dX4_irredundantCore_28 : decode cX4_irredundantCore 28 = .ok (.if_icmp .ge 21, 3) := by decide +kernel
theorem dX4_irredundantCore_31 : decode cX4_irredundantCore 31 = .ok (.aload_n 0, 1) := by decide +kernel
theorem dX4_irredundantCore_32 : decode cX4_irredundantCore 32 = .ok (.getfield 36, 3) := by decide +kernel
theorem dX4_irredundantCore_35 : decode cX4_irredundantCore 35 = .ok (.aload_n 2, 1) := by decide +kernel
theorem dX4_irredundantCore_36 : decode cX4_irredundantCore 36 = .ok (.iload_n 3, 1) := by decide +kernel
theorem dX4_irredundantCore_37 : decode cX4_irredundantCore 37 = .ok (.invokevirtual 160, 3) := by decide +kernel
theorem dX4_irredundantCore_40 : decode cX4_irredundantCore 40 = .ok (.invokevirtual 198, 3) := by decide +kernel
theorem dX4_irredundantCore_43 : decode cX4_irredundantCore 43 = .ok (.iinc 3 1, 3) := by decide +kernel
theorem dX4_irredundantCore_46 : decode cX4_irredundantCore 46 = .ok (.goto (-22), 3) := by decide +kernel
theorem dX4_irredundantCore_49 : decode cX4_irredundantCore 49 = .ok (.aload_n 2, 1) := by decide +kernel
theorem dX4_irredundantCore_50 : decode cX4_irredundantCore 50 = .ok (.invokevirtual 200, 3) := by decide +kernel
theorem dX4_irredundantCore_53 : decode cX4_irredundantCore 53 = .ok (.istore_n 3, 1) := by decide +kernel
theorem dX4_irredundantCore_54 : decode cX4_irredundantCore 54 = .ok (.aload_n 0, 1) := by decide +kernel
theorem dX4_irredundantCore_55 : decode cX4_irredundantCore 55 = .ok (.aload_n 2, 1) := by decide +kernel
theorem dX4_irredundantCore_56 : decode cX4_irredundantCore 56 = .ok (.iload_n 3, 1) := by decide +kernel
theorem dX4_irredundantCore_57 : decode cX4_irredundantCore 57 = .ok (.invokevirtual 203, 3) := by decide +kernel
theorem dX4_irredundantCore_60 : decode cX4_irredundantCore 60 = .ok (.istore 4, 2) := by decide +kernel
theorem dX4_irredundantCore_62 : decode cX4_irredundantCore 62 = .ok (.iconst 0, 1) := by decide +kernel
theorem dX4_irredundantCore_63 : decode cX4_irredundantCore 63 = .ok (.istore 5, 2) := by decide +kernel
theorem dX4_irredundantCore_65 : decode cX4_irredundantCore 65 = .ok (.iload 5, 2) := by decide +kernel
theorem dX4_irredundantCore_67 : decode cX4_irredundantCore 67 = .ok (.bipush 8, 2) := by decide +kernel
theorem dX4_irredundantCore_69 : decode cX4_irredundantCore 69 = .ok (.if_icmp .ge 29, 3) := by decide +kernel
theorem dX4_irredundantCore_72 : decode cX4_irredundantCore 72 = .ok (.iload 4, 2) := by decide +kernel
theorem dX4_irredundantCore_74 : decode cX4_irredundantCore 74 = .ok (.ifCond .eq 24, 3) := by decide +kernel
theorem dX4_irredundantCore_77 : decode cX4_irredundantCore 77 = .ok (.iload_n 3, 1) := by decide +kernel
theorem dX4_irredundantCore_78 : decode cX4_irredundantCore 78 = .ok (.iload 4, 2) := by decide +kernel
theorem dX4_irredundantCore_80 : decode cX4_irredundantCore 80 = .ok (.iconst (-1), 1) := by decide +kernel
theorem dX4_irredundantCore_81 : decode cX4_irredundantCore 81 = .ok (.ixor, 1) := by decide +kernel
theorem dX4_irredundantCore_82 : decode cX4_irredundantCore 82 = .ok (.iand, 1) := by decide +kernel
theorem dX4_irredundantCore_83 : decode cX4_irredundantCore 83 = .ok (.istore_n 3, 1) := by decide +kernel
theorem dX4_irredundantCore_84 : decode cX4_irredundantCore 84 = .ok (.aload_n 0, 1) := by decide +kernel
theorem dX4_irredundantCore_85 : decode cX4_irredundantCore 85 = .ok (.aload_n 2, 1) := by decide +kernel
theorem dX4_irredundantCore_86 : decode cX4_irredundantCore 86 = .ok (.iload_n 3, 1) := by decide +kernel
theorem dX4_irredundantCore_87 : decode cX4_irredundantCore 87 = .ok (.invokevirtual 203, 3) := by decide +kernel
theorem dX4_irredundantCore_90 : decode cX4_irredundantCore 90 = .ok (.istore 4, 2) := by decide +kernel
theorem dX4_irredundantCore_92 : decode cX4_irredundantCore 92 = .ok (.iinc 5 1, 3) := by decide +kernel
theorem dX4_irredundantCore_95 : decode cX4_irredundantCore 95 = .ok (.goto (-30), 3) := by decide +kernel
theorem dX4_irredundantCore_98 : decode cX4_irredundantCore 98 = .ok (.iload_n 3, 1) := by decide +kernel
theorem dX4_irredundantCore_99 : decode cX4_irredundantCore 99 = .ok (.ireturn, 1) := by decide +kernel
theorem dX4_leastRemoval_0 : decode cX4_leastRemoval 0 = .ok (.aload_n 0, 1) := by decide +kernel
theorem dX4_leastRemoval_1 : decode cX4_leastRemoval 1 = .ok (.getfield 36, 3) := by decide +kernel
theorem dX4_leastRemoval_4 : decode cX4_leastRemoval 4 = .ok (.invokevirtual 197, 3) := by decide +kernel
theorem dX4_leastRemoval_7 : decode cX4_leastRemoval 7 = .ok (.iconst 0, 1) := by decide +kernel
theorem dX4_leastRemoval_8 : decode cX4_leastRemoval 8 = .ok (.istore_n 1, 1) := by decide +kernel
theorem dX4_leastRemoval_9 : decode cX4_leastRemoval 9 = .ok (.iload_n 1, 1) := by decide +kernel
theorem dX4_leastRemoval_10 : decode cX4_leastRemoval 10 = .ok (.sipush 1024, 3) := by decide +kernel
theorem dX4_leastRemoval_13 : decode cX4_leastRemoval 13 = .ok (.if_icmp .ge 35, 3) := by decide +kernel
theorem dX4_leastRemoval_16 : decode cX4_leastRemoval 16 = .ok (.aload_n 0, 1) := by decide +kernel
theorem dX4_leastRemoval_17 : decode cX4_leastRemoval 17 = .ok (.getfield 10, 3) := by decide +kernel
theorem dX4_leastRemoval_20 : decode cX4_leastRemoval 20 = .ok (.iload_n 1, 1) := by decide +kernel
theorem dX4_leastRemoval_21 : decode cX4_leastRemoval 21 = .ok (.invokevirtual 150, 3) := by decide +kernel
theorem dX4_leastRemoval_24 : decode cX4_leastRemoval 24 = .ok (.ifCond .eq 18, 3) := by decide +kernel
theorem dX4_leastRemoval_27 : decode cX4_leastRemoval 27 = .ok (.aload_n 0, 1) := by decide +kernel
theorem dX4_leastRemoval_28 : decode cX4_leastRemoval 28 = .ok (.getfield 36, 3) := by decide +kernel
theorem dX4_leastRemoval_31 : decode cX4_leastRemoval 31 = .ok (.aload_n 0, 1) := by decide +kernel
theorem dX4_leastRemoval_32 : decode cX4_leastRemoval 32 = .ok (.getfield 16, 3) := by decide +kernel
theorem dX4_leastRemoval_35 : decode cX4_leastRemoval 35 = .ok (.iload_n 1, 1) := by decide +kernel
theorem dX4_leastRemoval_36 : decode cX4_leastRemoval 36 = .ok (.invokevirtual 160, 3) := by decide +kernel
theorem dX4_leastRemoval_39 : decode cX4_leastRemoval 39 = .ok (.invokevirtual 198, 3) := by decide +kernel
theorem dX4_leastRemoval_42 : decode cX4_leastRemoval 42 = .ok (.iinc 1 1, 3) := by decide +kernel
theorem dX4_leastRemoval_45 : decode cX4_leastRemoval 45 = .ok (.goto (-36), 3) := by decide +kernel
theorem dX4_leastRemoval_48 : decode cX4_leastRemoval 48 = .ok (.aload_n 0, 1) := by decide +kernel
theorem dX4_leastRemoval_49 : decode cX4_leastRemoval 49 = .ok (.getfield 16, 3) := by decide +kernel
theorem dX4_leastRemoval_52 : decode cX4_leastRemoval 52 = .ok (.invokevirtual 200, 3) := by decide +kernel
theorem dX4_leastRemoval_55 : decode cX4_leastRemoval 55 = .ok (.istore_n 1, 1) := by decide +kernel
theorem dX4_leastRemoval_56 : decode cX4_leastRemoval 56 = .ok (.bipush (-4), 2) := by decide +kernel
theorem dX4_leastRemoval_58 : decode cX4_leastRemoval 58 = .ok (.istore_n 2, 1) := by decide +kernel
theorem dX4_leastRemoval_59 : decode cX4_leastRemoval 59 = .ok (.bipush 9, 2) := by decide +kernel
theorem dX4_leastRemoval_61 : decode cX4_leastRemoval 61 = .ok (.istore_n 3, 1) := by decide +kernel
theorem dX4_leastRemoval_62 : decode cX4_leastRemoval 62 = .ok (.iconst 0, 1) := by decide +kernel
theorem dX4_leastRemoval_63 : decode cX4_leastRemoval 63 = .ok (.istore 4, 2) := by decide +kernel
theorem dX4_leastRemoval_65 : decode cX4_leastRemoval 65 = .ok (.iload 4, 2) := by decide +kernel
theorem dX4_leastRemoval_67 : decode cX4_leastRemoval 67 = .ok (.iload_n 1, 1) := by decide +kernel
theorem dX4_leastRemoval_68 : decode cX4_leastRemoval 68 = .ok (.if_icmp .gt 47, 3) := by decide +kernel
theorem dX4_leastRemoval_71 : decode cX4_leastRemoval 71 = .ok (.iload 4, 2) := by decide +kernel
theorem dX4_leastRemoval_73 : decode cX4_leastRemoval 73 = .ok (.invokestatic 163, 3) := by decide +kernel
theorem dX4_leastRemoval_76 : decode cX4_leastRemoval 76 = .ok (.iload_n 3, 1) := by decide +kernel
theorem dX4_leastRemoval_77 : decode cX4_leastRemoval 77 = .ok (.if_icmp .ge 32, 3) := by decide +kernel
theorem dX4_leastRemoval_80 : decode cX4_leastRemoval 80 = .ok (.aload_n 0, 1) := by decide +kernel
theorem dX4_leastRemoval_81 : decode cX4_leastRemoval 81 = .ok (.getfield 36, 3) := by decide +kernel
theorem dX4_leastRemoval_84 : decode cX4_leastRemoval 84 = .ok (.aload_n 0, 1) := by decide +kernel
theorem dX4_leastRemoval_85 : decode cX4_leastRemoval 85 = .ok (.getfield 16, 3) := by decide +kernel
theorem dX4_leastRemoval_88 : decode cX4_leastRemoval 88 = .ok (.iload_n 1, 1) := by decide +kernel
theorem dX4_leastRemoval_89 : decode cX4_leastRemoval 89 = .ok (.iload 4, 2) := by decide +kernel
theorem dX4_leastRemoval_91 : decode cX4_leastRemoval 91 = .ok (.iconst (-1), 1) := by decide +kernel
theorem dX4_leastRemoval_92 : decode cX4_leastRemoval 92 = .ok (.ixor, 1) := by decide +kernel
theorem dX4_leastRemoval_93 : decode cX4_leastRemoval 93 = .ok (.iand, 1) := by decide +kernel
theorem dX4_leastRemoval_94 : decode cX4_leastRemoval 94 = .ok (.invokevirtual 206, 3) := by decide +kernel
theorem dX4_leastRemoval_97 : decode cX4_leastRemoval 97 = .ok (.ifCond .ne 12, 3) := by decide +kernel
theorem dX4_leastRemoval_100 : decode cX4_leastRemoval 100 = .ok (.iload 4, 2) := by decide +kernel
theorem dX4_leastRemoval_102 : decode cX4_leastRemoval 102 = .ok (.istore_n 2, 1) := by decide +kernel
theorem dX4_leastRemoval_103 : decode cX4_leastRemoval 103 = .ok (.iload 4, 2) := by decide +kernel
theorem dX4_leastRemoval_105 : decode cX4_leastRemoval 105 = .ok (.invokestatic 163, 3) := by decide +kernel
theorem dX4_leastRemoval_108 : decode cX4_leastRemoval 108 = .ok (.istore_n 3, 1) := by decide +kernel
theorem dX4_leastRemoval_109 : decode cX4_leastRemoval 109 = .ok (.iinc 4 1, 3) := by decide +kernel
theorem dX4_leastRemoval_112 : decode cX4_leastRemoval 112 = .ok (.goto (-47), 3) := by decide +kernel
theorem dX4_leastRemoval_115 : decode cX4_leastRemoval 115 = .ok (.iload_n 2, 1) := by decide +kernel
theorem dX4_leastRemoval_116 : decode cX4_leastRemoval 116 = .ok (.ireturn, 1) := by decide +kernel
theorem dX4_firstChangeWithout_0 : decode cX4_firstChangeWithout 0 = .ok (.iconst 1, 1) := by decide +kernel
theorem dX4_firstChangeWithout_1 : decode cX4_firstChangeWithout 1 = .ok (.iload_n 1, 1) := by decide +kernel
theorem dX4_firstChangeWithout_2 : decode cX4_firstChangeWithout 2 = .ok (.ishl, 1) := by decide +kernel
theorem dX4_firstChangeWithout_3 : decode cX4_firstChangeWithout 3 = .ok (.iconst (-1), 1) := by decide +kernel
theorem dX4_firstChangeWithout_4 : decode cX4_firstChangeWithout 4 = .ok (.ixor, 1) := by decide +kernel
theorem dX4_firstChangeWithout_5 : decode cX4_firstChangeWithout 5 = .ok (.istore_n 2, 1) := by decide +kernel
theorem dX4_firstChangeWithout_6 : decode cX4_firstChangeWithout 6 = .ok (.iconst 0, 1) := by decide +kernel
theorem dX4_firstChangeWithout_7 : decode cX4_firstChangeWithout 7 = .ok (.istore_n 3, 1) := by decide +kernel
theorem dX4_firstChangeWithout_8 : decode cX4_firstChangeWithout 8 = .ok (.iload_n 3, 1) := by decide +kernel
theorem dX4_firstChangeWithout_9 : decode cX4_firstChangeWithout 9 = .ok (.sipush 1024, 3) := by decide +kernel
theorem dX4_firstChangeWithout_12 : decode cX4_firstChangeWithout 12 = .ok (.if_icmp .ge 35, 3) := by decide +kernel
theorem dX4_firstChangeWithout_15 : decode cX4_firstChangeWithout 15 = .ok (.aload_n 0, 1) := by decide +kernel
theorem dX4_firstChangeWithout_16 : decode cX4_firstChangeWithout 16 = .ok (.iload_n 3, 1) := by decide +kernel
theorem dX4_firstChangeWithout_17 : decode cX4_firstChangeWithout 17 = .ok (.invokevirtual 160, 3) := by decide +kernel
theorem dX4_firstChangeWithout_20 : decode cX4_firstChangeWithout 20 = .ok (.istore 4, 2) := by decide +kernel
theorem dX4_firstChangeWithout_22 : decode cX4_firstChangeWithout 22 = .ok (.aload_n 0, 1) := by decide +kernel
theorem dX4_firstChangeWithout_23 : decode cX4_firstChangeWithout 23 = .ok (.iload 4, 2) := by decide +kernel
theorem dX4_firstChangeWithout_25 : decode cX4_firstChangeWithout 25 = .ok (.invokevirtual 210, 3) := by decide +kernel
theorem dX4_firstChangeWithout_28 : decode cX4_firstChangeWithout 28 = .ok (.aload_n 0, 1) := by decide +kernel
theorem dX4_firstChangeWithout_29 : decode cX4_firstChangeWithout 29 = .ok (.iload 4, 2) := by decide +kernel
theorem dX4_firstChangeWithout_31 : decode cX4_firstChangeWithout 31 = .ok (.iload_n 2, 1) := by decide +kernel
theorem dX4_firstChangeWithout_32 : decode cX4_firstChangeWithout 32 = .ok (.iand, 1) := by decide +kernel
theorem dX4_firstChangeWithout_33 : decode cX4_firstChangeWithout 33 = .ok (.invokevirtual 210, 3) := by decide +kernel
theorem dX4_firstChangeWithout_36 : decode cX4_firstChangeWithout 36 = .ok (.if_icmp .eq 5, 3) := by decide +kernel
theorem dX4_firstChangeWithout_39 : decode cX4_firstChangeWithout 39 = .ok (.iload_n 3, 1) := by decide +kernel
theorem dX4_firstChangeWithout_40 : decode cX4_firstChangeWithout 40 = .ok (.ireturn, 1) := by decide +kernel
theorem dX4_firstChangeWithout_41 : decode cX4_firstChangeWithout 41 = .ok (.iinc 3 1, 3) := by decide +kernel
theorem dX4_firstChangeWithout_44 : decode cX4_firstChangeWithout 44 = .ok (.goto (-36), 3) := by decide +kernel
theorem dX4_firstChangeWithout_47 : decode cX4_firstChangeWithout 47 = .ok (.bipush (-4), 2) := by decide +kernel
theorem dX4_firstChangeWithout_49 : decode cX4_firstChangeWithout 49 = .ok (.ireturn, 1) := by decide +kernel
theorem dX4_lowestRedundant_0 : decode cX4_lowestRedundant 0 = .ok (.iconst 0, 1) := by decide +kernel
theorem dX4_lowestRedundant_1 : decode cX4_lowestRedundant 1 = .ok (.istore_n 3, 1) := by decide +kernel
theorem dX4_lowestRedundant_2 : decode cX4_lowestRedundant 2 = .ok (.iload_n 3, 1) := by decide +kernel
theorem dX4_lowestRedundant_3 : decode cX4_lowestRedundant 3 = .ok (.bipush 8, 2) := by decide +kernel
theorem dX4_lowestRedundant_5 : decode cX4_lowestRedundant 5 = .ok (.if_icmp .ge 42, 3) := by decide +kernel
theorem dX4_lowestRedundant_8 : decode cX4_lowestRedundant 8 = .ok (.iconst 1, 1) := by decide +kernel
theorem dX4_lowestRedundant_9 : decode cX4_lowestRedundant 9 = .ok (.iload_n 3, 1) := by decide +kernel
theorem dX4_lowestRedundant_10 : decode cX4_lowestRedundant 10 = .ok (.ishl, 1) := by decide +kernel
theorem dX4_lowestRedundant_11 : decode cX4_lowestRedundant 11 = .ok (.istore 4, 2) := by decide +kernel
theorem dX4_lowestRedundant_13 : decode cX4_lowestRedundant 13 = .ok (.iload_n 2, 1) := by decide +kernel
theorem dX4_lowestRedundant_14 : decode cX4_lowestRedundant 14 = .ok (.iload 4, 2) := by decide +kernel
theorem dX4_lowestRedundant_16 : decode cX4_lowestRedundant 16 = .ok (.iand, 1) := by decide +kernel
theorem dX4_lowestRedundant_17 : decode cX4_lowestRedundant 17 = .ok (.ifCond .eq 24, 3) := by decide +kernel
theorem dX4_lowestRedundant_20 : decode cX4_lowestRedundant 20 = .ok (.aload_n 0, 1) := by decide +kernel
theorem dX4_lowestRedundant_21 : decode cX4_lowestRedundant 21 = .ok (.getfield 36, 3) := by decide +kernel
theorem dX4_lowestRedundant_24 : decode cX4_lowestRedundant 24 = .ok (.aload_n 1, 1) := by decide +kernel
theorem dX4_lowestRedundant_25 : decode cX4_lowestRedundant 25 = .ok (.iload_n 2, 1) := by decide +kernel
theorem dX4_lowestRedundant_26 : decode cX4_lowestRedundant 26 = .ok (.iload_n 2, 1) := by decide +kernel
theorem dX4_lowestRedundant_27 : decode cX4_lowestRedundant 27 = .ok (.iload 4, 2) := by decide +kernel
theorem dX4_lowestRedundant_29 : decode cX4_lowestRedundant 29 = .ok (.iconst (-1), 1) := by decide +kernel
theorem dX4_lowestRedundant_30 : decode cX4_lowestRedundant 30 = .ok (.ixor, 1) := by decide +kernel
theorem dX4_lowestRedundant_31 : decode cX4_lowestRedundant 31 = .ok (.iand, 1) := by decide +kernel
theorem dX4_lowestRedundant_32 : decode cX4_lowestRedundant 32 = .ok (.invokevirtual 213, 3) := by decide +kernel
theorem dX4_lowestRedundant_35 : decode cX4_lowestRedundant 35 = .ok (.ifCond .eq 6, 3) := by decide +kernel
theorem dX4_lowestRedundant_38 : decode cX4_lowestRedundant 38 = .ok (.iload 4, 2) := by decide +kernel
theorem dX4_lowestRedundant_40 : decode cX4_lowestRedundant 40 = .ok (.ireturn, 1) := by decide +kernel
theorem dX4_lowestRedundant_41 : decode cX4_lowestRedundant 41 = .ok (.iinc 3 1, 3) := by decide +kernel
theorem dX4_lowestRedundant_44 : decode cX4_lowestRedundant 44 = .ok (.goto (-42), 3) := by decide +kernel
theorem dX4_lowestRedundant_47 : decode cX4_lowestRedundant 47 = .ok (.iconst 0, 1) := by decide +kernel
theorem dX4_lowestRedundant_48 : decode cX4_lowestRedundant 48 = .ok (.ireturn, 1) := by decide +kernel
theorem dX4_historySize_0 : decode cX4_historySize 0 = .ok (.aload_n 0, 1) := by decide +kernel
theorem dX4_historySize_1 : decode cX4_historySize 1 = .ok (.getfield 29, 3) := by decide +kernel
theorem dX4_historySize_4 : decode cX4_historySize 4 = .ok (.invokevirtual 140, 3) := by decide +kernel
theorem dX4_historySize_7 : decode cX4_historySize 7 = .ok (.ireturn, 1) := by decide +kernel
theorem dX4_isPolicy_0 : decode cX4_isPolicy 0 = .ok (.iload_n 0, 1) := by decide +kernel
theorem dX4_isPolicy_1 : decode cX4_isPolicy 1 = .ok (.ifCond .eq 8, 3) := by decide +kernel
theorem dX4_isPolicy_4 : decode cX4_isPolicy 4 = .ok (.iload_n 0, 1) := by decide +kernel
theorem dX4_isPolicy_5 : decode cX4_isPolicy 5 = .ok (.iconst 1, 1) := by decide +kernel
theorem dX4_isPolicy_6 : decode cX4_isPolicy 6 = .ok (.if_icmp .ne 7, 3) := by decide +kernel
theorem dX4_isPolicy_9 : decode cX4_isPolicy 9 = .ok (.iconst 1, 1) := by decide +kernel
theorem dX4_isPolicy_10 : decode cX4_isPolicy 10 = .ok (.goto 4, 3) := by decide +kernel
theorem dX4_isPolicy_13 : decode cX4_isPolicy 13 = .ok (.iconst 0, 1) := by decide +kernel
theorem dX4_isPolicy_14 : decode cX4_isPolicy 14 = .ok (.ireturn, 1) := by decide +kernel
theorem dX4_isEffect_0 : decode cX4_isEffect 0 = .ok (.iload_n 0, 1) := by decide +kernel
theorem dX4_isEffect_1 : decode cX4_isEffect 1 = .ok (.ifCond .eq 8, 3) := by decide +kernel
theorem dX4_isEffect_4 : decode cX4_isEffect 4 = .ok (.iload_n 0, 1) := by decide +kernel
theorem dX4_isEffect_5 : decode cX4_isEffect 5 = .ok (.iconst 1, 1) := by decide +kernel
theorem dX4_isEffect_6 : decode cX4_isEffect 6 = .ok (.if_icmp .ne 7, 3) := by decide +kernel
theorem dX4_isEffect_9 : decode cX4_isEffect 9 = .ok (.iconst 1, 1) := by decide +kernel
theorem dX4_isEffect_10 : decode cX4_isEffect 10 = .ok (.goto 4, 3) := by decide +kernel
theorem dX4_isEffect_13 : decode cX4_isEffect 13 = .ok (.iconst 0, 1) := by decide +kernel
theorem dX4_isEffect_14 : decode cX4_isEffect 14 = .ok (.ireturn, 1) := by decide +kernel
theorem dX4_isAttribute_0 : decode cX4_isAttribute 0 = .ok (.iload_n 0, 1) := by decide +kernel
theorem dX4_isAttribute_1 : decode cX4_isAttribute 1 = .ok (.ifCond .lt 12, 3) := by decide +kernel
theorem dX4_isAttribute_4 : decode cX4_isAttribute 4 = .ok (.iload_n 0, 1) := by decide +kernel
theorem dX4_isAttribute_5 : decode cX4_isAttribute 5 = .ok (.iconst 4, 1) := by decide +kernel
theorem dX4_isAttribute_6 : decode cX4_isAttribute 6 = .ok (.if_icmp .ge 7, 3) := by decide +kernel
theorem dX4_isAttribute_9 : decode cX4_isAttribute 9 = .ok (.iconst 1, 1) := by decide +kernel
theorem dX4_isAttribute_10 : decode cX4_isAttribute 10 = .ok (.goto 4, 3) := by decide +kernel
theorem dX4_isAttribute_13 : decode cX4_isAttribute 13 = .ok (.iconst 0, 1) := by decide +kernel
theorem dX4_isAttribute_14 : decode cX4_isAttribute 14 = .ok (.ireturn, 1) := by decide +kernel
theorem dX4_isRequest_0 : decode cX4_isRequest 0 = .ok (.iload_n 0, 1) := by decide +kernel
theorem dX4_isRequest_1 : decode cX4_isRequest 1 = .ok (.ifCond .lt 14, 3) := by decide +kernel
theorem dX4_isRequest_4 : decode cX4_isRequest 4 = .ok (.iload_n 0, 1) := by decide +kernel
theorem dX4_isRequest_5 : decode cX4_isRequest 5 = .ok (.sipush 1024, 3) := by decide +kernel
theorem dX4_isRequest_8 : decode cX4_isRequest 8 = .ok (.if_icmp .ge 7, 3) := by decide +kernel
theorem dX4_isRequest_11 : decode cX4_isRequest 11 = .ok (.iconst 1, 1) := by decide +kernel
theorem dX4_isRequest_12 : decode cX4_isRequest 12 = .ok (.goto 4, 3) := by decide +kernel
theorem dX4_isRequest_15 : decode cX4_isRequest 15 = .ok (.iconst 0, 1) := by decide +kernel
theorem dX4_isRequest_16 : decode cX4_isRequest 16 = .ok (.ireturn, 1) := by decide +kernel
theorem dX4_isDecision_0 : decode cX4_isDecision 0 = .ok (.iload_n 0, 1) := by decide +kernel
theorem dX4_isDecision_1 : decode cX4_isDecision 1 = .ok (.ifCond .lt 12, 3) := by decide +kernel
theorem dX4_isDecision_4 : decode cX4_isDecision 4 = .ok (.iload_n 0, 1) := by decide +kernel
theorem dX4_isDecision_5 : decode cX4_isDecision 5 = .ok (.iconst 3, 1) := by decide +kernel
theorem dX4_isDecision_6 : decode cX4_isDecision 6 = .ok (.if_icmp .gt 7, 3) := by decide +kernel
theorem dX4_isDecision_9 : decode cX4_isDecision 9 = .ok (.iconst 1, 1) := by decide +kernel
theorem dX4_isDecision_10 : decode cX4_isDecision 10 = .ok (.goto 4, 3) := by decide +kernel
theorem dX4_isDecision_13 : decode cX4_isDecision 13 = .ok (.iconst 0, 1) := by decide +kernel
theorem dX4_isDecision_14 : decode cX4_isDecision 14 = .ok (.ireturn, 1) := by decide +kernel
theorem dX4_isValueSet_0 : decode cX4_isValueSet 0 = .ok (.iload_n 1, 1) := by decide +kernel
theorem dX4_isValueSet_1 : decode cX4_isValueSet 1 = .ok (.ifCond .le 18, 3) := by decide +kernel
theorem dX4_isValueSet_4 : decode cX4_isValueSet 4 = .ok (.iload_n 1, 1) := by decide +kernel
theorem dX4_isValueSet_5 : decode cX4_isValueSet 5 = .ok (.iconst 1, 1) := by decide +kernel
theorem dX4_isValueSet_6 : decode cX4_isValueSet 6 = .ok (.getstatic 172, 3) := by decide +kernel
theorem dX4_isValueSet_9 : decode cX4_isValueSet 9 = .ok (.iload_n 0, 1) := by decide +kernel
theorem dX4_isValueSet_10 : decode cX4_isValueSet 10 = .ok (.iaload, 1) := by decide +kernel
theorem dX4_isValueSet_11 : decode cX4_isValueSet 11 = .ok (.ishl, 1) := by decide +kernel
theorem dX4_isValueSet_12 : decode cX4_isValueSet 12 = .ok (.if_icmp .ge 7, 3) := by decide +kernel
theorem dX4_isValueSet_15 : decode cX4_isValueSet 15 = .ok (.iconst 1, 1) := by decide +kernel
theorem dX4_isValueSet_16 : decode cX4_isValueSet 16 = .ok (.goto 4, 3) := by decide +kernel
theorem dX4_isValueSet_19 : decode cX4_isValueSet 19 = .ok (.iconst 0, 1) := by decide +kernel
theorem dX4_isValueSet_20 : decode cX4_isValueSet 20 = .ok (.ireturn, 1) := by decide +kernel
theorem dX4_isRule_0 : decode cX4_isRule 0 = .ok (.iload_n 1, 1) := by decide +kernel
theorem dX4_isRule_1 : decode cX4_isRule 1 = .ok (.invokestatic 83, 3) := by decide +kernel
theorem dX4_isRule_4 : decode cX4_isRule 4 = .ok (.ifCond .eq 23, 3) := by decide +kernel
theorem dX4_isRule_7 : decode cX4_isRule 7 = .ok (.iload_n 2, 1) := by decide +kernel
theorem dX4_isRule_8 : decode cX4_isRule 8 = .ok (.ifCond .lt 19, 3) := by decide +kernel
theorem dX4_isRule_11 : decode cX4_isRule 11 = .ok (.iload_n 2, 1) := by decide +kernel
theorem dX4_isRule_12 : decode cX4_isRule 12 = .ok (.aload_n 0, 1) := by decide +kernel
theorem dX4_isRule_13 : decode cX4_isRule 13 = .ok (.iload_n 1, 1) := by decide +kernel
theorem dX4_isRule_14 : decode cX4_isRule 14 = .ok (.invokevirtual 90, 3) := by decide +kernel
theorem dX4_isRule_17 : decode cX4_isRule 17 = .ok (.invokevirtual 69, 3) := by decide +kernel
theorem dX4_isRule_20 : decode cX4_isRule 20 = .ok (.if_icmp .ge 7, 3) := by decide +kernel
theorem dX4_isRule_23 : decode cX4_isRule 23 = .ok (.iconst 1, 1) := by decide +kernel
theorem dX4_isRule_24 : decode cX4_isRule 24 = .ok (.goto 4, 3) := by decide +kernel
theorem dX4_isRule_27 : decode cX4_isRule 27 = .ok (.iconst 0, 1) := by decide +kernel
theorem dX4_isRule_28 : decode cX4_isRule 28 = .ok (.ireturn, 1) := by decide +kernel
theorem dX4_policyNumbered_0 : decode cX4_policyNumbered 0 = .ok (.iload_n 1, 1) := by decide +kernel
theorem dX4_policyNumbered_1 : decode cX4_policyNumbered 1 = .ok (.ifCond .ne 10, 3) := by decide +kernel
theorem dX4_policyNumbered_4 : decode cX4_policyNumbered 4 = .ok (.aload_n 0, 1) := by decide +kernel
theorem dX4_policyNumbered_5 : decode cX4_policyNumbered 5 = .ok (.getfield 10, 3) := by decide +kernel
theorem dX4_policyNumbered_8 : decode cX4_policyNumbered 8 = .ok (.goto 7, 3) := by decide +kernel
theorem dX4_policyNumbered_11 : decode cX4_policyNumbered 11 = .ok (.aload_n 0, 1) := by decide +kernel
theorem dX4_policyNumbered_12 : decode cX4_policyNumbered 12 = .ok (.getfield 16, 3) := by decide +kernel
theorem dX4_policyNumbered_15 : decode cX4_policyNumbered 15 = .ok (.areturn, 1) := by decide +kernel
theorem dX4_valueIn_0 : decode cX4_valueIn 0 = .ok (.iload_n 0, 1) := by decide +kernel
theorem dX4_valueIn_1 : decode cX4_valueIn 1 = .ok (.getstatic 217, 3) := by decide +kernel
theorem dX4_valueIn_4 : decode cX4_valueIn 4 = .ok (.iload_n 1, 1) := by decide +kernel
theorem dX4_valueIn_5 : decode cX4_valueIn 5 = .ok (.iaload, 1) := by decide +kernel
theorem dX4_valueIn_6 : decode cX4_valueIn 6 = .ok (.ishr, 1) := by decide +kernel
theorem dX4_valueIn_7 : decode cX4_valueIn 7 = .ok (.getstatic 172, 3) := by decide +kernel
theorem dX4_valueIn_10 : decode cX4_valueIn 10 = .ok (.iload_n 1, 1) := by decide +kernel
theorem dX4_valueIn_11 : decode cX4_valueIn 11 = .ok (.iaload, 1) := by decide +kernel
theorem dX4_valueIn_12 : decode cX4_valueIn 12 = .ok (.iconst 1, 1) := by decide +kernel
theorem dX4_valueIn_13 : decode cX4_valueIn 13 = .ok (.isub, 1) := by decide +kernel
theorem dX4_valueIn_14 : decode cX4_valueIn 14 = .ok (.iand, 1) := by decide +kernel
theorem dX4_valueIn_15 : decode cX4_valueIn 15 = .ok (.ireturn, 1) := by decide +kernel
theorem dX5_init_0 : decode cX5_init 0 = .ok (.aload_n 0, 1) := by decide +kernel
theorem dX5_init_1 : decode cX5_init 1 = .ok (.invokespecial 1, 3) := by decide +kernel
theorem dX5_init_4 : decode cX5_init 4 = .ok (.aload_n 0, 1) := by decide +kernel
theorem dX5_init_5 : decode cX5_init 5 = .ok (.sipush 240, 3) := by decide +kernel
theorem dX5_init_8 : decode cX5_init 8 = .ok (.newarray .int, 2) := by decide +kernel
theorem dX5_init_10 : decode cX5_init 10 = .ok (.putfield 7, 3) := by decide +kernel
theorem dX5_init_13 : decode cX5_init 13 = .ok (.aload_n 0, 1) := by decide +kernel
theorem dX5_init_14 : decode cX5_init 14 = .ok (.bipush 84, 2) := by decide +kernel
theorem dX5_init_16 : decode cX5_init 16 = .ok (.newarray .int, 2) := by decide +kernel
theorem dX5_init_18 : decode cX5_init 18 = .ok (.putfield 13, 3) := by decide +kernel
theorem dX5_init_21 : decode cX5_init 21 = .ok (.aload_n 0, 1) := by decide +kernel
theorem dX5_init_22 : decode cX5_init 22 = .ok (.bipush 84, 2) := by decide +kernel
theorem dX5_init_24 : decode cX5_init 24 = .ok (.newarray .int, 2) := by decide +kernel
theorem dX5_init_26 : decode cX5_init 26 = .ok (.putfield 16, 3) := by decide +kernel
theorem dX5_init_29 : decode cX5_init 29 = .ok (.aload_n 0, 1) := by decide +kernel
theorem dX5_init_30 : decode cX5_init 30 = .ok (.sipush 336, 3) := by decide +kernel
theorem dX5_init_33 : decode cX5_init 33 = .ok (.newarray .int, 2) := by decide +kernel
theorem dX5_init_35 : decode cX5_init 35 = .ok (.putfield 19, 3) := by decide +kernel
theorem dX5_init_38 : decode cX5_init 38 = .ok (.aload_n 0, 1) := by decide +kernel
theorem dX5_init_39 : decode cX5_init 39 = .ok (.sipush 1024, 3) := by decide +kernel
theorem dX5_init_42 : decode cX5_init 42 = .ok (.newarray .int, 2) := by decide +kernel
theorem dX5_init_44 : decode cX5_init 44 = .ok (.putfield 22, 3) := by decide +kernel
theorem dX5_init_47 : decode cX5_init 47 = .ok (.aload_n 0, 1) := by decide +kernel
theorem dX5_init_48 : decode cX5_init 48 = .ok (.sipush 1024, 3) := by decide +kernel
theorem dX5_init_51 : decode cX5_init 51 = .ok (.newarray .int, 2) := by decide +kernel
theorem dX5_init_53 : decode cX5_init 53 = .ok (.putfield 25, 3) := by decide +kernel
theorem dX5_init_56 : decode cX5_init 56 = .ok (.aload_n 0, 1) := by decide +kernel
theorem dX5_init_57 : decode cX5_init 57 = .ok (.iconst 5, 1) := by decide +kernel
theorem dX5_init_58 : decode cX5_init 58 = .ok (.newarray .int, 2) := by decide +kernel
theorem dX5_init_60 : decode cX5_init 60 = .ok (.putfield 28, 3) := by decide +kernel
theorem dX5_init_63 : decode cX5_init 63 = .ok (.aload_n 0, 1) := by decide +kernel
theorem dX5_init_64 : decode cX5_init 64 = .ok (.invokevirtual 31, 3) := by decide +kernel
theorem dX5_init_67 : decode cX5_init 67 = .ok (.aload_n 0, 1) := by decide +kernel
theorem dX5_init_68 : decode cX5_init 68 = .ok (.getfield 16, 3) := by decide +kernel
theorem dX5_init_71 : decode cX5_init 71 = .ok (.iconst 0, 1) := by decide +kernel
theorem dX5_init_72 : decode cX5_init 72 = .ok (.iconst 2, 1) := by decide +kernel
theorem dX5_init_73 : decode cX5_init 73 = .ok (.iastore, 1) := by decide +kernel
theorem dX5_init_74 : decode cX5_init 74 = .ok (.aload_n 0, 1) := by decide +kernel
theorem dX5_init_75 : decode cX5_init 75 = .ok (.getfield 16, 3) := by decide +kernel
theorem dX5_init_78 : decode cX5_init 78 = .ok (.iconst 1, 1) := by decide +kernel
theorem dX5_init_79 : decode cX5_init 79 = .ok (.iconst 1, 1) := by decide +kernel
theorem dX5_init_80 : decode cX5_init 80 = .ok (.iastore, 1) := by decide +kernel
theorem dX5_init_81 : decode cX5_init 81 = .ok (.aload_n 0, 1) := by decide +kernel
theorem dX5_init_82 : decode cX5_init 82 = .ok (.iconst 0, 1) := by decide +kernel
theorem dX5_init_83 : decode cX5_init 83 = .ok (.iconst 0, 1) := by decide +kernel
theorem dX5_init_84 : decode cX5_init 84 = .ok (.iconst 0, 1) := by decide +kernel
theorem dX5_init_85 : decode cX5_init 85 = .ok (.iconst 3, 1) := by decide +kernel
theorem dX5_init_86 : decode cX5_init 86 = .ok (.bipush 15, 2) := by decide +kernel
theorem dX5_init_88 : decode cX5_init 88 = .ok (.bipush 15, 2) := by decide +kernel
theorem dX5_init_90 : decode cX5_init 90 = .ok (.bipush 15, 2) := by decide +kernel
theorem dX5_init_92 : decode cX5_init 92 = .ok (.invokevirtual 34, 3) := by decide +kernel
theorem dX5_init_95 : decode cX5_init 95 = .ok (.aload_n 0, 1) := by decide +kernel
theorem dX5_init_96 : decode cX5_init 96 = .ok (.iconst 0, 1) := by decide +kernel
theorem dX5_init_97 : decode cX5_init 97 = .ok (.iconst 1, 1) := by decide +kernel
theorem dX5_init_98 : decode cX5_init 98 = .ok (.iconst 1, 1) := by decide +kernel
theorem dX5_init_99 : decode cX5_init 99 = .ok (.sipush 255, 3) := by decide +kernel
theorem dX5_init_102 : decode cX5_init 102 = .ok (.bipush 8, 2) := by decide +kernel
theorem dX5_init_104 : decode cX5_init 104 = .ok (.sipush 255, 3) := by decide +kernel
theorem dX5_init_107 : decode cX5_init 107 = .ok (.bipush 15, 2) := by decide +kernel
theorem dX5_init_109 : decode cX5_init 109 = .ok (.invokevirtual 34, 3) := by decide +kernel
theorem dX5_init_112 : decode cX5_init 112 = .ok (.aload_n 0, 1) := by decide +kernel
theorem dX5_init_113 : decode cX5_init 113 = .ok (.getfield 16, 3) := by decide +kernel
theorem dX5_init_116 : decode cX5_init 116 = .ok (.bipush 42, 2) := by decide +kernel
theorem dX5_init_118 : decode cX5_init 118 = .ok (.iconst 3, 1) := by decide +kernel
theorem dX5_init_119 : decode cX5_init 119 = .ok (.iastore, 1) := by decide +kernel
theorem dX5_init_120 : decode cX5_init 120 = .ok (.aload_n 0, 1) := by decide +kernel
theorem dX5_init_121 : decode cX5_init 121 = .ok (.getfield 16, 3) := by decide +kernel
theorem dX5_init_124 : decode cX5_init 124 = .ok (.bipush 43, 2) := by decide +kernel
theorem dX5_init_126 : decode cX5_init 126 = .ok (.iconst 0, 1) := by decide +kernel
theorem dX5_init_127 : decode cX5_init 127 = .ok (.iastore, 1) := by decide +kernel
theorem dX5_init_128 : decode cX5_init 128 = .ok (.aload_n 0, 1) := by decide +kernel
theorem dX5_init_129 : decode cX5_init 129 = .ok (.iconst 1, 1) := by decide +kernel
theorem dX5_init_130 : decode cX5_init 130 = .ok (.iconst 0, 1) := by decide +kernel
theorem dX5_init_131 : decode cX5_init 131 = .ok (.iconst 0, 1) := by decide +kernel
theorem dX5_init_132 : decode cX5_init 132 = .ok (.bipush 7, 2) := by decide +kernel
theorem dX5_init_134 : decode cX5_init 134 = .ok (.bipush 15, 2) := by decide +kernel
theorem dX5_init_136 : decode cX5_init 136 = .ok (.bipush 15, 2) := by decide +kernel
theorem dX5_init_138 : decode cX5_init 138 = .ok (.bipush 15, 2) := by decide +kernel
theorem dX5_init_140 : decode cX5_init 140 = .ok (.invokevirtual 34, 3) := by decide +kernel
theorem dX5_init_143 : decode cX5_init 143 = .ok (.aload_n 0, 1) := by decide +kernel
theorem dX5_init_144 : decode cX5_init 144 = .ok (.iconst 1, 1) := by decide +kernel
theorem dX5_init_145 : decode cX5_init 145 = .ok (.iconst 1, 1) := by decide +kernel
theorem dX5_init_146 : decode cX5_init 146 = .ok (.iconst 1, 1) := by decide +kernel
theorem dX5_init_147 : decode cX5_init 147 = .ok (.sipush 255, 3) := by decide +kernel
theorem dX5_init_150 : decode cX5_init 150 = .ok (.bipush 8, 2) := by decide +kernel
theorem dX5_init_152 : decode cX5_init 152 = .ok (.sipush 255, 3) := by decide +kernel
theorem dX5_init_155 : decode cX5_init 155 = .ok (.iconst 3, 1) := by decide +kernel
theorem dX5_init_156 : decode cX5_init 156 = .ok (.invokevirtual 34, 3) := by decide +kernel
theorem dX5_init_159 : decode cX5_init 159 = .ok (.aload_n 0, 1) := by decide +kernel
theorem dX5_init_160 : decode cX5_init 160 = .ok (.iconst 1, 1) := by decide +kernel
theorem dX5_init_161 : decode cX5_init 161 = .ok (.iconst 2, 1) := by decide +kernel
theorem dX5_init_162 : decode cX5_init 162 = .ok (.iconst 0, 1) := by decide +kernel
theorem dX5_init_163 : decode cX5_init 163 = .ok (.iconst 1, 1) := by decide +kernel
theorem dX5_init_164 : decode cX5_init 164 = .ok (.bipush 15, 2) := by decide +kernel
theorem dX5_init_166 : decode cX5_init 166 = .ok (.sipush 255, 3) := by decide +kernel
theorem dX5_init_169 : decode cX5_init 169 = .ok (.bipush 15, 2) := by decide +kernel
theorem dX5_init_171 : decode cX5_init 171 = .ok (.invokevirtual 34, 3) := by decide +kernel
theorem dX5_init_174 : decode cX5_init 174 = .ok (.aload_n 0, 1) := by decide +kernel
theorem dX5_init_175 : decode cX5_init 175 = .ok (.invokevirtual 38, 3) := by decide +kernel
theorem dX5_init_178 : decode cX5_init 178 = .ok (.return_, 1) := by decide +kernel
theorem dX5_sets_0 : decode cX5_sets 0 = .ok (.bipush 42, 2) := by decide +kernel
theorem dX5_sets_2 : decode cX5_sets 2 = .ok (.iload_n 1, 1) := by decide +kernel
theorem dX5_sets_3 : decode cX5_sets 3 = .ok (.imul, 1) := by decide +kernel
theorem dX5_sets_4 : decode cX5_sets 4 = .ok (.iconst 2, 1) := by decide +kernel
theorem dX5_sets_5 : decode cX5_sets 5 = .ok (.iadd, 1) := by decide +kernel
theorem dX5_sets_6 : decode cX5_sets 6 = .ok (.iconst 5, 1) := by decide +kernel
theorem dX5_sets_7 : decode cX5_sets 7 = .ok (.iload_n 2, 1) := by decide +kernel
theorem dX5_sets_8 : decode cX5_sets 8 = .ok (.imul, 1) := by decide +kernel
theorem dX5_sets_9 : decode cX5_sets 9 = .ok (.iadd, 1) := by decide +kernel
theorem dX5_sets_10 : decode cX5_sets 10 = .ok (.istore 8, 2) := by decide +kernel
theorem dX5_sets_12 : decode cX5_sets 12 = .ok (.aload_n 0, 1) := by decide +kernel
theorem dX5_sets_13 : decode cX5_sets 13 = .ok (.getfield 16, 3) := by decide +kernel
theorem dX5_sets_16 : decode cX5_sets 16 = .ok (.iload 8, 2) := by decide +kernel
theorem dX5_sets_18 : decode cX5_sets 18 = .ok (.iload_n 3, 1) := by decide +kernel
theorem dX5_sets_19 : decode cX5_sets 19 = .ok (.iastore, 1) := by decide +kernel
theorem dX5_sets_20 : decode cX5_sets 20 = .ok (.aload_n 0, 1) := by decide +kernel
theorem dX5_sets_21 : decode cX5_sets 21 = .ok (.getfield 16, 3) := by decide +kernel
theorem dX5_sets_24 : decode cX5_sets 24 = .ok (.iload 8, 2) := by decide +kernel
theorem dX5_sets_26 : decode cX5_sets 26 = .ok (.iconst 1, 1) := by decide +kernel
theorem dX5_sets_27 : decode cX5_sets 27 = .ok (.iadd, 1) := by decide +kernel
theorem dX5_sets_28 : decode cX5_sets 28 = .ok (.iload 4, 2) := by decide +kernel
theorem dX5_sets_30 : decode cX5_sets 30 = .ok (.iastore, 1) := by decide +kernel
theorem dX5_sets_31 : decode cX5_sets 31 = .ok (.aload_n 0, 1) := by decide +kernel
theorem dX5_sets_32 : decode cX5_sets 32 = .ok (.getfield 16, 3) := by decide +kernel
theorem dX5_sets_35 : decode cX5_sets 35 = .ok (.iload 8, 2) := by decide +kernel
theorem dX5_sets_37 : decode cX5_sets 37 = .ok (.iconst 2, 1) := by decide +kernel
theorem dX5_sets_38 : decode cX5_sets 38 = .ok (.iadd, 1) := by decide +kernel
theorem dX5_sets_39 : decode cX5_sets 39 = .ok (.iload 5, 2) := by decide +kernel
theorem dX5_sets_41 : decode cX5_sets 41 = .ok (.iastore, 1) := by decide +kernel
theorem dX5_sets_42 : decode cX5_sets 42 = .ok (.aload_n 0, 1) := by decide +kernel
theorem dX5_sets_43 : decode cX5_sets 43 = .ok (.getfield 16, 3) := by decide +kernel
theorem dX5_sets_46 : decode cX5_sets 46 = .ok (.iload 8, 2) := by decide +kernel
theorem dX5_sets_48 : decode cX5_sets 48 = .ok (.iconst 3, 1) := by decide +kernel
theorem dX5_sets_49 : decode cX5_sets 49 = .ok (.iadd, 1) := by decide +kernel
theorem dX5_sets_50 : decode cX5_sets 50 = .ok (.iload 6, 2) := by decide +kernel
theorem dX5_sets_52 : decode cX5_sets 52 = .ok (.iastore, 1) := by decide +kernel
theorem dX5_sets_53 : decode cX5_sets 53 = .ok (.aload_n 0, 1) := by decide +kernel
theorem dX5_sets_54 : decode cX5_sets 54 = .ok (.getfield 16, 3) := by decide +kernel
theorem dX5_sets_57 : decode cX5_sets 57 = .ok (.iload 8, 2) := by decide +kernel
theorem dX5_sets_59 : decode cX5_sets 59 = .ok (.iconst 4, 1) := by decide +kernel
theorem dX5_sets_60 : decode cX5_sets 60 = .ok (.iadd, 1) := by decide +kernel
theorem dX5_sets_61 : decode cX5_sets 61 = .ok (.iload 7, 2) := by decide +kernel
theorem dX5_sets_63 : decode cX5_sets 63 = .ok (.iastore, 1) := by decide +kernel
theorem dX5_sets_64 : decode cX5_sets 64 = .ok (.return_, 1) := by decide +kernel
theorem dX5_in_0 : decode cX5_in 0 = .ok (.iload_n 0, 1) := by decide +kernel
theorem dX5_in_1 : decode cX5_in 1 = .ok (.iload_n 1, 1) := by decide +kernel
theorem dX5_in_2 : decode cX5_in 2 = .ok (.if_icmp .lt 12, 3) := by decide +kernel
theorem dX5_in_5 : decode cX5_in 5 = .ok (.iload_n 0, 1) := by decide +kernel
theorem dX5_in_6 : decode cX5_in 6 = .ok (.iload_n 2, 1) := by decide +kernel
theorem dX5_in_7 : decode cX5_in 7 = .ok (.if_icmp .gt 7, 3) := by decide +kernel
theorem dX5_in_10 : decode cX5_in 10 = .ok (.iconst 1, 1) := by decide +kernel
theorem dX5_in_11 : decode cX5_in 11 = .ok (.goto 4, 3) := by decide +kernel
theorem dX5_in_14 : decode cX5_in 14 = .ok (.iconst 0, 1) := by decide +kernel
theorem dX5_in_15 : decode cX5_in 15 = .ok (.ireturn, 1) := by decide +kernel
theorem dX5_has_0 : decode cX5_has 0 = .ok (.iload_n 0, 1) := by decide +kernel
theorem dX5_has_1 : decode cX5_has 1 = .ok (.iload_n 1, 1) := by decide +kernel
theorem dX5_has_2 : decode cX5_has 2 = .ok (.ishr, 1) := by decide +kernel
theorem dX5_has_3 : decode cX5_has 3 = .ok (.iconst 1, 1) := by decide +kernel
theorem dX5_has_4 : decode cX5_has 4 = .ok (.iand, 1) := by decide +kernel
theorem dX5_has_5 : decode cX5_has 5 = .ok (.iconst 1, 1) := by decide +kernel
theorem dX5_has_6 : decode cX5_has 6 = .ok (.if_icmp .ne 7, 3) := by decide +kernel
theorem dX5_has_9 : decode cX5_has 9 = .ok (.iconst 1, 1) := by decide +kernel
theorem dX5_has_10 : decode cX5_has 10 = .ok (.goto 4, 3) := by decide +kernel
theorem dX5_has_13 : decode cX5_has 13 = .ok (.iconst 0, 1) := by decide +kernel
theorem dX5_has_14 : decode cX5_has 14 = .ok (.ireturn, 1) := by decide +kernel
theorem dX5_valuesOf_0 : decode cX5_valuesOf 0 = .ok (.iload_n 0, 1) := by decide +kernel
theorem dX5_valuesOf_1 : decode cX5_valuesOf 1 = .ok (.ifCond .eq 8, 3) := by decide +kernel
theorem dX5_valuesOf_4 : decode cX5_valuesOf 4 = .ok (.iload_n 0, 1) := by decide +kernel
theorem dX5_valuesOf_5 : decode cX5_valuesOf 5 = .ok (.iconst 2, 1) := by decide +kernel
theorem dX5_valuesOf_6 : decode cX5_valuesOf 6 = .ok (.if_icmp .ne 8, 3) := by decide +kernel
theorem dX5_valuesOf_9 : decode cX5_valuesOf 9 = .ok (.bipush 8, 2) := by decide +kernel
theorem dX5_valuesOf_11 : decode cX5_valuesOf 11 = .ok (.goto 4, 3) := by decide +kernel
theorem dX5_valuesOf_14 : decode cX5_valuesOf 14 = .ok (.iconst 4, 1) := by decide +kernel
theorem dX5_valuesOf_15 : decode cX5_valuesOf 15 = .ok (.ireturn, 1) := by decide +kernel
theorem dX5_append_0 : decode cX5_append 0 = .ok (.iload_n 1, 1) := by decide +kernel
theorem dX5_append_1 : decode cX5_append 1 = .ok (.bipush 32, 2) := by decide +kernel
theorem dX5_append_3 : decode cX5_append 3 = .ok (.bipush 126, 2) := by decide +kernel
theorem dX5_append_5 : decode cX5_append 5 = .ok (.invokestatic 41, 3) := by decide +kernel
theorem dX5_append_8 : decode cX5_append 8 = .ok (.ifCond .ne 5, 3) := by decide +kernel
theorem dX5_append_11 : decode cX5_append 11 = .ok (.iconst (-1), 1) := by decide +kernel
theorem dX5_append_12 : decode cX5_append 12 = .ok (.ireturn, 1) := by decide +kernel
theorem dX5_append_13 : decode cX5_append 13 = .ok (.aload_n 0, 1) := by decide +kernel
theorem dX5_append_14 : decode cX5_append 14 = .ok (.getfield 45, 3) := by decide +kernel
theorem dX5_append_17 : decode cX5_append 17 = .ok (.sipush 240, 3) := by decide +kernel
theorem dX5_append_20 : decode cX5_append 20 = .ok (.if_icmp .ne 6, 3) := by decide +kernel
theorem dX5_append_23 : decode cX5_append 23 = .ok (.bipush (-2), 2) := by decide +kernel
theorem dX5_append_25 : decode cX5_append 25 = .ok (.ireturn, 1) := by decide +kernel
theorem dX5_append_26 : decode cX5_append 26 = .ok (.aload_n 0, 1) := by decide +kernel
theorem dX5_append_27 : decode cX5_append 27 = .ok (.getfield 7, 3) := by decide +kernel
theorem dX5_append_30 : decode cX5_append 30 = .ok (.aload_n 0, 1) := by decide +kernel
theorem dX5_append_31 : decode cX5_append 31 = .ok (.getfield 45, 3) := by decide +kernel
theorem dX5_append_34 : decode cX5_append 34 = .ok (.iload_n 1, 1) := by decide +kernel
theorem dX5_append_35 : decode cX5_append 35 = .ok (.iastore, 1) := by decide +kernel
theorem dX5_append_36 : decode cX5_append 36 = .ok (.aload_n 0, 1) := by decide +kernel
theorem dX5_append_37 : decode cX5_append 37 = .ok (.dup, 1) := by decide +kernel
theorem dX5_append_38 : decode cX5_append 38 = .ok (.getfield 45, 3) := by decide +kernel
theorem dX5_append_41 : decode cX5_append 41 = .ok (.iconst 1, 1) := by decide +kernel
theorem dX5_append_42 : decode cX5_append 42 = .ok (.iadd, 1) := by decide +kernel
theorem dX5_append_43 : decode cX5_append 43 = .ok (.putfield 45, 3) := by decide +kernel
theorem dX5_append_46 : decode cX5_append 46 = .ok (.aload_n 0, 1) := by decide +kernel
theorem dX5_append_47 : decode cX5_append 47 = .ok (.getfield 45, 3) := by decide +kernel
theorem dX5_append_50 : decode cX5_append 50 = .ok (.ireturn, 1) := by decide +kernel
theorem dX5_clearText_0 : decode cX5_clearText 0 = .ok (.aload_n 0, 1) := by decide +kernel
theorem dX5_clearText_1 : decode cX5_clearText 1 = .ok (.getfield 45, 3) := by decide +kernel
theorem dX5_clearText_4 : decode cX5_clearText 4 = .ok (.istore_n 1, 1) := by decide +kernel
theorem dX5_clearText_5 : decode cX5_clearText 5 = .ok (.aload_n 0, 1) := by decide +kernel
theorem dX5_clearText_6 : decode cX5_clearText 6 = .ok (.iconst 0, 1) := by decide +kernel
theorem dX5_clearText_7 : decode cX5_clearText 7 = .ok (.putfield 45, 3) := by decide +kernel
theorem dX5_clearText_10 : decode cX5_clearText 10 = .ok (.iload_n 1, 1) := by decide +kernel
theorem dX5_clearText_11 : decode cX5_clearText 11 = .ok (.ireturn, 1) := by decide +kernel
theorem dX5_next_0 : decode cX5_next 0 = .ok (.aload_n 0, 1) := by decide +kernel
theorem dX5_next_1 : decode cX5_next 1 = .ok (.getfield 49, 3) := by decide +kernel
theorem dX5_next_4 : decode cX5_next 4 = .ok (.aload_n 0, 1) := by decide +kernel
theorem dX5_next_5 : decode cX5_next 5 = .ok (.getfield 45, 3) := by decide +kernel
theorem dX5_next_8 : decode cX5_next 8 = .ok (.if_icmp .ge 15, 3) := by decide +kernel
theorem dX5_next_11 : decode cX5_next 11 = .ok (.aload_n 0, 1) := by decide +kernel
theorem dX5_next_12 : decode cX5_next 12 = .ok (.getfield 7, 3) := by decide +kernel
theorem dX5_next_15 : decode cX5_next 15 = .ok (.aload_n 0, 1) := by decide +kernel
theorem dX5_next_16 : decode cX5_next 16 = .ok (.getfield 49, 3) := by decide +kernel
theorem dX5_next_19 : decode cX5_next 19 = .ok (.iaload, 1) := by decide +kernel
theorem dX5_next_20 : decode cX5_next 20 = .ok (.goto 4, 3) := by decide +kernel
theorem dX5_next_23 : decode cX5_next 23 = .ok (.iconst 0, 1) := by decide +kernel
theorem dX5_next_24 : decode cX5_next 24 = .ok (.ireturn, 1) := by decide +kernel
theorem dX5_is_0 : decode cX5_is 0 = .ok (.aload_n 0, 1) := by decide +kernel
theorem dX5_is_1 : decode cX5_is 1 = .ok (.getfield 49, 3) := by decide +kernel
theorem dX5_is_4 : decode cX5_is 4 = .ok (.iload_n 1, 1) := by decide +kernel
theorem dX5_is_5 : decode cX5_is 5 = .ok (.iadd, 1) := by decide +kernel
theorem dX5_is_6 : decode cX5_is 6 = .ok (.aload_n 0, 1) := by decide +kernel
theorem dX5_is_7 : decode cX5_is 7 = .ok (.getfield 45, 3) := by decide +kernel
theorem dX5_is_10 : decode cX5_is 10 = .ok (.if_icmp .ge 22, 3) := by decide +kernel
theorem dX5_is_13 : decode cX5_is 13 = .ok (.aload_n 0, 1) := by decide +kernel
theorem dX5_is_14 : decode cX5_is 14 = .ok (.getfield 7, 3) := by decide +kernel
theorem dX5_is_17 : decode cX5_is 17 = .ok (.aload_n 0, 1) := by decide +kernel
theorem dX5_is_18 : decode cX5_is 18 = .ok (.getfield 49, 3) := by decide +kernel
theorem dX5_is_21 : decode cX5_is 21 = .ok (.iload_n 1, 1) := by decide +kernel
theorem dX5_is_22 : decode cX5_is 22 = .ok (.iadd, 1) := by decide +kernel
theorem dX5_is_23 : decode cX5_is 23 = .ok (.iaload, 1) := by decide +kernel
theorem dX5_is_24 : decode cX5_is 24 = .ok (.iload_n 2, 1) := by decide +kernel
theorem dX5_is_25 : decode cX5_is 25 = .ok (.if_icmp .ne 7, 3) := by decide +kernel
theorem dX5_is_28 : decode cX5_is 28 = .ok (.iconst 1, 1) := by decide +kernel
theorem dX5_is_29 : decode cX5_is 29 = .ok (.goto 4, 3) := by decide +kernel
theorem dX5_is_32 : decode cX5_is 32 = .ok (.iconst 0, 1) := by decide +kernel
theorem dX5_is_33 : decode cX5_is 33 = .ok (.ireturn, 1) := by decide +kernel
theorem dX5_are_0 : decode cX5_are 0 = .ok (.aload_n 0, 1) := by decide +kernel
theorem dX5_are_1 : decode cX5_are 1 = .ok (.iload_n 1, 1) := by decide +kernel
theorem dX5_are_2 : decode cX5_are 2 = .ok (.iload_n 2, 1) := by decide +kernel
theorem dX5_are_3 : decode cX5_are 3 = .ok (.invokevirtual 52, 3) := by decide +kernel
theorem dX5_are_6 : decode cX5_are 6 = .ok (.ifCond .eq 42, 3) := by decide +kernel
theorem dX5_are_9 : decode cX5_are 9 = .ok (.aload_n 0, 1) := by decide +kernel
theorem dX5_are_10 : decode cX5_are 10 = .ok (.iload_n 1, 1) := by decide +kernel
theorem dX5_are_11 : decode cX5_are 11 = .ok (.iconst 1, 1) := by decide +kernel
theorem dX5_are_12 : decode cX5_are 12 = .ok (.iadd, 1) := by decide +kernel
theorem dX5_are_13 : decode cX5_are 13 = .ok (.iload_n 3, 1) := by decide +kernel
theorem dX5_are_14 : decode cX5_are 14 = .ok (.invokevirtual 52, 3) := by decide +kernel
theorem dX5_are_17 : decode cX5_are 17 = .ok (.ifCond .eq 31, 3) := by decide +kernel
theorem dX5_are_20 : decode cX5_are 20 = .ok (.aload_n 0, 1) := by decide +kernel
theorem dX5_are_21 : decode cX5_are 21 = .ok (.iload_n 1, 1) := by decide +kernel
theorem dX5_are_22 : decode cX5_are 22 = .ok (.iconst 2, 1) := by decide +kernel
theorem dX5_are_23 : decode cX5_are 23 = .ok (.iadd, 1) := by decide +kernel
theorem dX5_are_24 : decode cX5_are 24 = .ok (.iload 4, 2) := by decide +kernel
theorem dX5_are_26 : decode cX5_are 26 = .ok (.invokevirtual 52, 3) := by decide +kernel
theorem dX5_are_29 : decode cX5_are 29 = .ok (.ifCond .eq 19, 3) := by decide +kernel
theorem dX5_are_32 : decode cX5_are 32 = .ok (.aload_n 0, 1) := by decide +kernel
theorem dX5_are_33 : decode cX5_are 33 = .ok (.iload_n 1, 1) := by decide +kernel
theorem dX5_are_34 : decode cX5_are 34 = .ok (.iconst 3, 1) := by decide +kernel
theorem dX5_are_35 : decode cX5_are 35 = .ok (.iadd, 1) := by decide +kernel
theorem dX5_are_36 : decode cX5_are 36 = .ok (.iload 5, 2) := by decide +kernel
theorem dX5_are_38 : decode cX5_are 38 = .ok (.invokevirtual 52, 3) := by decide +kernel
theorem dX5_are_41 : decode cX5_are 41 = .ok (.ifCond .eq 7, 3) := by decide +kernel
theorem dX5_are_44 : decode cX5_are 44 = .ok (.iconst 1, 1) := by decide +kernel
theorem dX5_are_45 : decode cX5_are 45 = .ok (.goto 4, 3) := by decide +kernel
theorem dX5_are_48 : decode cX5_are 48 = .ok (.iconst 0, 1) := by decide +kernel
theorem dX5_are_49 : decode cX5_are 49 = .ok (.ireturn, 1) := by decide +kernel
theorem dX5_word_0 : decode cX5_word 0 = .ok (.aload_n 0, 1) := by decide +kernel
theorem dX5_word_1 : decode cX5_word 1 = .ok (.iconst 0, 1) := by decide +kernel
theorem dX5_word_2 : decode cX5_word 2 = .ok (.iload_n 1, 1) := by decide +kernel
theorem dX5_word_3 : decode cX5_word 3 = .ok (.invokevirtual 52, 3) := by decide +kernel
theorem dX5_word_6 : decode cX5_word 6 = .ok (.ifCond .eq 25, 3) := by decide +kernel
theorem dX5_word_9 : decode cX5_word 9 = .ok (.aload_n 0, 1) := by decide +kernel
theorem dX5_word_10 : decode cX5_word 10 = .ok (.iconst 1, 1) := by decide +kernel
theorem dX5_word_11 : decode cX5_word 11 = .ok (.iload_n 2, 1) := by decide +kernel
theorem dX5_word_12 : decode cX5_word 12 = .ok (.invokevirtual 52, 3) := by decide +kernel
theorem dX5_word_15 : decode cX5_word 15 = .ok (.ifCond .eq 16, 3) := by decide +kernel
theorem dX5_word_18 : decode cX5_word 18 = .ok (.aload_n 0, 1) := by decide +kernel
theorem dX5_word_19 : decode cX5_word 19 = .ok (.iconst 2, 1) := by decide +kernel
theorem dX5_word_20 : decode cX5_word 20 = .ok (.iload_n 3, 1) := by decide +kernel
theorem dX5_word_21 : decode cX5_word 21 = .ok (.invokevirtual 52, 3) := by decide +kernel
theorem dX5_word_24 : decode cX5_word 24 = .ok (.ifCond .eq 7, 3) := by decide +kernel
theorem dX5_word_27 : decode cX5_word 27 = .ok (.iconst 1, 1) := by decide +kernel
theorem dX5_word_28 : decode cX5_word 28 = .ok (.goto 4, 3) := by decide +kernel
theorem dX5_word_31 : decode cX5_word 31 = .ok (.iconst 0, 1) := by decide +kernel
theorem dX5_word_32 : decode cX5_word 32 = .ok (.istore 8, 2) := by decide +kernel
theorem dX5_word_34 : decode cX5_word 34 = .ok (.iload 8, 2) := by decide +kernel
theorem dX5_word_36 : decode cX5_word 36 = .ok (.ifCond .eq 56, 3) := by decide +kernel
theorem dX5_word_39 : decode cX5_word 39 = .ok (.iload 7, 2) := by decide +kernel
theorem dX5_word_41 : decode cX5_word 41 = .ok (.iconst 4, 1) := by decide +kernel
theorem dX5_word_42 : decode cX5_word 42 = .ok (.if_icmp .lt 13, 3) := by decide +kernel
theorem dX5_word_45 : decode cX5_word 45 = .ok (.aload_n 0, 1) := by decide +kernel
theorem dX5_word_46 : decode cX5_word 46 = .ok (.iconst 3, 1) := by decide +kernel
theorem dX5_word_47 : decode cX5_word 47 = .ok (.iload 4, 2) := by decide +kernel
theorem dX5_word_49 : decode cX5_word 49 = .ok (.invokevirtual 52, 3) := by decide +kernel
theorem dX5_word_52 : decode cX5_word 52 = .ok (.ifCond .eq 40, 3) := by decide +kernel
theorem dX5_word_55 : decode cX5_word 55 = .ok (.iload 7, 2) := by decide +kernel
theorem dX5_word_57 : decode cX5_word 57 = .ok (.iconst 5, 1) := by decide +kernel
theorem dX5_word_58 : decode cX5_word 58 = .ok (.if_icmp .lt 13, 3) := by decide +kernel
theorem dX5_word_61 : decode cX5_word 61 = .ok (.aload_n 0, 1) := by decide +kernel
theorem dX5_word_62 : decode cX5_word 62 = .ok (.iconst 4, 1) := by decide +kernel
theorem dX5_word_63 : decode cX5_word 63 = .ok (.iload 5, 2) := by decide +kernel
theorem dX5_word_65 : decode cX5_word 65 = .ok (.invokevirtual 52, 3) := by decide +kernel
theorem dX5_word_68 : decode cX5_word 68 = .ok (.ifCond .eq 24, 3) := by decide +kernel
theorem dX5_word_71 : decode cX5_word 71 = .ok (.iload 7, 2) := by decide +kernel
theorem dX5_word_73 : decode cX5_word 73 = .ok (.bipush 6, 2) := by decide +kernel
theorem dX5_word_75 : decode cX5_word 75 = .ok (.if_icmp .lt 13, 3) := by decide +kernel
theorem dX5_word_78 : decode cX5_word 78 = .ok (.aload_n 0, 1) := by decide +kernel
theorem dX5_word_79 : decode cX5_word 79 = .ok (.iconst 5, 1) := by decide +kernel
theorem dX5_word_80 : decode cX5_word 80 = .ok (.iload 6, 2) := by decide +kernel
theorem dX5_word_82 : decode cX5_word 82 = .ok (.invokevirtual 52, 3) := by decide +kernel
theorem dX5_word_85 : decode cX5_word 85 = .ok (.ifCond .eq 7, 3) := by decide +kernel
theorem dX5_word_88 : decode cX5_word 88 = .ok (.iconst 1, 1) := by decide +kernel
theorem dX5_word_89 : decode cX5_word 89 = .ok (.goto 4, 3) := by decide +kernel
theorem dX5_word_92 : decode cX5_word 92 = .ok (.iconst 0, 1) := by decide +kernel
theorem dX5_word_93 : decode cX5_word 93 = .ok (.istore 8, 2) := by decide +kernel
theorem dX5_word_95 : decode cX5_word 95 = .ok (.aload_n 0, 1) := by decide +kernel
theorem dX5_word_96 : decode cX5_word 96 = .ok (.dup, 1) := by decide +kernel
theorem dX5_word_97 : decode cX5_word 97 = .ok (.getfield 49, 3) := by decide +kernel
theorem dX5_word_100 : decode cX5_word 100 = .ok (.iload 8, 2) := by decide +kernel
theorem dX5_word_102 : decode cX5_word 102 = .ok (.ifCond .eq 8, 3) := by decide +kernel
theorem dX5_word_105 : decode cX5_word 105 = .ok (.iload 7, 2) := by decide +kernel
theorem dX5_word_107 : decode cX5_word 107 = .ok (.goto 4, 3) := by decide +kernel
theorem dX5_word_110 : decode cX5_word 110 = .ok (.iconst 0, 1) := by decide +kernel
theorem dX5_word_111 : decode cX5_word 111 = .ok (.iadd, 1) := by decide +kernel
theorem dX5_word_112 : decode cX5_word 112 = .ok (.putfield 49, 3) := by decide +kernel
theorem dX5_word_115 : decode cX5_word 115 = .ok (.iload 8, 2) := by decide +kernel
theorem dX5_word_117 : decode cX5_word 117 = .ok (.ireturn, 1) := by decide +kernel
theorem dX5_clears_0 : decode cX5_clears 0 = .ok (.iconst 0, 1) := by decide +kernel
theorem dX5_clears_1 : decode cX5_clears 1 = .ok (.istore_n 1, 1) := by decide +kernel
theorem dX5_clears_2 : decode cX5_clears 2 = .ok (.iload_n 1, 1) := by decide +kernel
theorem dX5_clears_3 : decode cX5_clears 3 = .ok (.bipush 84, 2) := by decide +kernel
theorem dX5_clears_5 : decode cX5_clears 5 = .ok (.if_icmp .ge 16, 3) := by decide +kernel
theorem dX5_clears_8 : decode cX5_clears 8 = .ok (.aload_n 0, 1) := by decide +kernel
theorem dX5_clears_9 : decode cX5_clears 9 = .ok (.getfield 16, 3) := by decide +kernel
theorem dX5_clears_12 : decode cX5_clears 12 = .ok (.iload_n 1, 1) := by decide +kernel
theorem dX5_clears_13 : decode cX5_clears 13 = .ok (.iconst 0, 1) := by decide +kernel
theorem dX5_clears_14 : decode cX5_clears 14 = .ok (.iastore, 1) := by decide +kernel
theorem dX5_clears_15 : decode cX5_clears 15 = .ok (.iinc 1 1, 3) := by decide +kernel
theorem dX5_clears_18 : decode cX5_clears 18 = .ok (.goto (-16), 3) := by decide +kernel
theorem dX5_clears_21 : decode cX5_clears 21 = .ok (.return_, 1) := by decide +kernel
theorem dX5_takes_0 : decode cX5_takes 0 = .ok (.iconst 0, 1) := by decide +kernel
theorem dX5_takes_1 : decode cX5_takes 1 = .ok (.istore_n 1, 1) := by decide +kernel
theorem dX5_takes_2 : decode cX5_takes 2 = .ok (.iload_n 1, 1) := by decide +kernel
theorem dX5_takes_3 : decode cX5_takes 3 = .ok (.bipush 84, 2) := by decide +kernel
theorem dX5_takes_5 : decode cX5_takes 5 = .ok (.if_icmp .ge 21, 3) := by decide +kernel
theorem dX5_takes_8 : decode cX5_takes 8 = .ok (.aload_n 0, 1) := by decide +kernel
theorem dX5_takes_9 : decode cX5_takes 9 = .ok (.getfield 13, 3) := by decide +kernel
theorem dX5_takes_12 : decode cX5_takes 12 = .ok (.iload_n 1, 1) := by decide +kernel
theorem dX5_takes_13 : decode cX5_takes 13 = .ok (.aload_n 0, 1) := by decide +kernel
theorem dX5_takes_14 : decode cX5_takes 14 = .ok (.getfield 16, 3) := by decide +kernel
theorem dX5_takes_17 : decode cX5_takes 17 = .ok (.iload_n 1, 1) := by decide +kernel
theorem dX5_takes_18 : decode cX5_takes 18 = .ok (.iaload, 1) := by decide +kernel
theorem dX5_takes_19 : decode cX5_takes 19 = .ok (.iastore, 1) := by decide +kernel
theorem dX5_takes_20 : decode cX5_takes 20 = .ok (.iinc 1 1, 3) := by decide +kernel
theorem dX5_takes_23 : decode cX5_takes 23 = .ok (.goto (-21), 3) := by decide +kernel
theorem dX5_takes_26 : decode cX5_takes 26 = .ok (.aload_n 0, 1) := by decide +kernel
theorem dX5_takes_27 : decode cX5_takes 27 = .ok (.iconst 0, 1) := by decide +kernel
theorem dX5_takes_28 : decode cX5_takes 28 = .ok (.putfield 56, 3) := by decide +kernel
theorem dX5_takes_31 : decode cX5_takes 31 = .ok (.return_, 1) := by decide +kernel
theorem dX5_attributeOf_0 : decode cX5_attributeOf 0 = .ok (.iload_n 0, 1) := by decide +kernel
theorem dX5_attributeOf_1 : decode cX5_attributeOf 1 = .ok (.bipush 115, 2) := by decide +kernel
theorem dX5_attributeOf_3 : decode cX5_attributeOf 3 = .ok (.if_icmp .ne 7, 3) := by decide +kernel
theorem dX5_attributeOf_6 : decode cX5_attributeOf 6 = .ok (.iconst 0, 1) := by decide +kernel
theorem dX5_attributeOf_7 : decode cX5_attributeOf 7 = .ok (.goto 35, 3) := by decide +kernel
theorem dX5_attributeOf_10 : decode cX5_attributeOf 10 = .ok (.iload_n 0, 1) := by decide +kernel
theorem dX5_attributeOf_11 : decode cX5_attributeOf 11 = .ok (.bipush 97, 2) := by decide +kernel
theorem dX5_attributeOf_13 : decode cX5_attributeOf 13 = .ok (.if_icmp .ne 7, 3) := by decide +kernel
theorem dX5_attributeOf_16 : decode cX5_attributeOf 16 = .ok (.iconst 1, 1) := by decide +kernel
theorem dX5_attributeOf_17 : decode cX5_attributeOf 17 = .ok (.goto 25, 3) := by decide +kernel
theorem dX5_attributeOf_20 : decode cX5_attributeOf 20 = .ok (.iload_n 0, 1) := by decide +kernel
theorem dX5_attributeOf_21 : decode cX5_attributeOf 21 = .ok (.bipush 114, 2) := by decide +kernel
theorem dX5_attributeOf_23 : decode cX5_attributeOf 23 = .ok (.if_icmp .ne 7, 3) := by decide +kernel
theorem dX5_attributeOf_26 : decode cX5_attributeOf 26 = .ok (.iconst 2, 1) := by decide +kernel
theorem dX5_attributeOf_27 : decode cX5_attributeOf 27 = .ok (.goto 15, 3) := by decide +kernel
theorem dX5_attributeOf_30 : decode cX5_attributeOf 30 = .ok (.iload_n 0, 1) := by decide +kernel
theorem dX5_attributeOf_31 : decode cX5_attributeOf 31 = .ok (.bipush 108, 2) := by decide +kernel
theorem dX5_attributeOf_33 : decode cX5_attributeOf 33 = .ok (.if_icmp .ne 7, 3) := by decide +kernel
theorem dX5_attributeOf_36 : decode cX5_attributeOf 36 = .ok (.iconst 3, 1) := by decide +kernel
theorem dX5_attributeOf_37 : decode cX5_attributeOf 37 = .ok (.goto 5, 3) := by decide +kernel
theorem dX5_attributeOf_40 : decode cX5_attributeOf 40 = .ok (.bipush (-4), 2) := by decide +kernel
theorem dX5_attributeOf_42 : decode cX5_attributeOf 42 = .ok (.ireturn, 1) := by decide +kernel
theorem dX5_constraints_0 : decode cX5_constraints 0 = .ok (.iconst 0, 1) := by decide +kernel
theorem dX5_constraints_1 : decode cX5_constraints 1 = .ok (.istore_n 2, 1) := by decide +kernel
theorem dX5_constraints_2 : decode cX5_constraints 2 = .ok (.aload_n 0, 1) := by decide +kernel
theorem dX5_constraints_3 : decode cX5_constraints 3 = .ok (.invokevirtual 59, 3) := by decide +kernel
theorem dX5_constraints_6 : decode cX5_constraints 6 = .ok (.bipush 58, 2) := by decide +kernel
theorem dX5_constraints_8 : decode cX5_constraints 8 = .ok (.if_icmp .ne 141, 3) := by decide +kernel
theorem dX5_constraints_11 : decode cX5_constraints 11 = .ok (.aload_n 0, 1) := by decide +kernel
theorem dX5_constraints_12 : decode cX5_constraints 12 = .ok (.dup, 1) := by decide +kernel
theorem dX5_constraints_13 : decode cX5_constraints 13 = .ok (.getfield 49, 3) := by decide +kernel
theorem dX5_constraints_16 : decode cX5_constraints 16 = .ok (.iconst 1, 1) := by decide +kernel
theorem dX5_constraints_17 : decode cX5_constraints 17 = .ok (.iadd, 1) := by decide +kernel
theorem dX5_constraints_18 : decode cX5_constraints 18 = .ok (.putfield 49, 3) := by decide +kernel
theorem dX5_constraints_21 : decode cX5_constraints 21 = .ok (.aload_n 0, 1) := by decide +kernel
theorem dX5_constraints_22 : decode cX5_constraints 22 = .ok (.invokevirtual 59, 3) := by decide +kernel
theorem dX5_constraints_25 : decode cX5_constraints 25 = .ok (.invokestatic 63, 3) := by decide +kernel
theorem dX5_constraints_28 : decode cX5_constraints 28 = .ok (.istore_n 3, 1) := by decide +kernel
theorem dX5_constraints_29 : decode cX5_constraints 29 = .ok (.aload_n 0, 1) := by decide +kernel
theorem dX5_constraints_30 : decode cX5_constraints 30 = .ok (.dup, 1) := by decide +kernel
theorem dX5_constraints_31 : decode cX5_constraints 31 = .ok (.getfield 49, 3) := by decide +kernel
theorem dX5_constraints_34 : decode cX5_constraints 34 = .ok (.iconst 1, 1) := by decide +kernel
theorem dX5_constraints_35 : decode cX5_constraints 35 = .ok (.iadd, 1) := by decide +kernel
theorem dX5_constraints_36 : decode cX5_constraints 36 = .ok (.putfield 49, 3) := by decide +kernel
theorem dX5_constraints_39 : decode cX5_constraints 39 = .ok (.iload_n 3, 1) := by decide +kernel
theorem dX5_constraints_40 : decode cX5_constraints 40 = .ok (.bipush (-4), 2) := by decide +kernel
theorem dX5_constraints_42 : decode cX5_constraints 42 = .ok (.if_icmp .eq 11, 3) := by decide +kernel
theorem dX5_constraints_45 : decode cX5_constraints 45 = .ok (.iload_n 2, 1) := by decide +kernel
theorem dX5_constraints_46 : decode cX5_constraints 46 = .ok (.iload_n 3, 1) := by decide +kernel
theorem dX5_constraints_47 : decode cX5_constraints 47 = .ok (.invokestatic 67, 3) := by decide +kernel
theorem dX5_constraints_50 : decode cX5_constraints 50 = .ok (.ifCond .eq 5, 3) := by decide +kernel
theorem dX5_constraints_53 : decode cX5_constraints 53 = .ok (.iconst 0, 1) := by decide +kernel
theorem dX5_constraints_54 : decode cX5_constraints 54 = .ok (.ireturn, 1) := by decide +kernel
theorem dX5_constraints_55 : decode cX5_constraints 55 = .ok (.iload_n 2, 1) := by decide +kernel
theorem dX5_constraints_56 : decode cX5_constraints 56 = .ok (.iconst 1, 1) := by decide +kernel
theorem dX5_constraints_57 : decode cX5_constraints 57 = .ok (.iload_n 3, 1) := by decide +kernel
theorem dX5_constraints_58 : decode cX5_constraints 58 = .ok (.ishl, 1) := by decide +kernel
theorem dX5_constraints_59 : decode cX5_constraints 59 = .ok (.ior, 1) := by decide +kernel
theorem dX5_constraints_60 : decode cX5_constraints 60 = .ok (.istore_n 2, 1) := by decide +kernel
theorem dX5_constraints_61 : decode cX5_constraints 61 = .ok (.iconst 0, 1) := by decide +kernel
theorem dX5_constraints_62 : decode cX5_constraints 62 = .ok (.istore 4, 2) := by decide +kernel
theorem dX5_constraints_64 : decode cX5_constraints 64 = .ok (.aload_n 0, 1) := by decide +kernel
theorem dX5_constraints_65 : decode cX5_constraints 65 = .ok (.invokevirtual 59, 3) := by decide +kernel
theorem dX5_constraints_68 : decode cX5_constraints 68 = .ok (.bipush 48, 2) := by decide +kernel
theorem dX5_constraints_70 : decode cX5_constraints 70 = .ok (.bipush 48, 2) := by decide +kernel
theorem dX5_constraints_72 : decode cX5_constraints 72 = .ok (.iload_n 3, 1) := by decide +kernel
theorem dX5_constraints_73 : decode cX5_constraints 73 = .ok (.invokestatic 70, 3) := by decide +kernel
theorem dX5_constraints_76 : decode cX5_constraints 76 = .ok (.iadd, 1) := by decide +kernel
theorem dX5_constraints_77 : decode cX5_constraints 77 = .ok (.iconst 1, 1) := by decide +kernel
theorem dX5_constraints_78 : decode cX5_constraints 78 = .ok (.isub, 1) := by decide +kernel
theorem dX5_constraints_79 : decode cX5_constraints 79 = .ok (.invokestatic 41, 3) := by decide +kernel
theorem dX5_constraints_82 : decode cX5_constraints 82 = .ok (.ifCond .eq 45, 3) := by decide +kernel
theorem dX5_constraints_85 : decode cX5_constraints 85 = .ok (.iload 4, 2) := by decide +kernel
theorem dX5_constraints_87 : decode cX5_constraints 87 = .ok (.aload_n 0, 1) := by decide +kernel
theorem dX5_constraints_88 : decode cX5_constraints 88 = .ok (.invokevirtual 59, 3) := by decide +kernel
theorem dX5_constraints_91 : decode cX5_constraints 91 = .ok (.bipush 48, 2) := by decide +kernel
theorem dX5_constraints_93 : decode cX5_constraints 93 = .ok (.isub, 1) := by decide +kernel
theorem dX5_constraints_94 : decode cX5_constraints 94 = .ok (.invokestatic 67, 3) := by decide +kernel
theorem dX5_constraints_97 : decode cX5_constraints 97 = .ok (.ifCond .ne 30, 3) := by decide +kernel
theorem dX5_constraints_100 : decode cX5_constraints 100 = .ok (.iload 4, 2) := by decide +kernel
theorem dX5_constraints_102 : decode cX5_constraints 102 = .ok (.iconst 1, 1) := by decide +kernel
theorem dX5_constraints_103 : decode cX5_constraints 103 = .ok (.aload_n 0, 1) := by decide +kernel
theorem dX5_constraints_104 : decode cX5_constraints 104 = .ok (.invokevirtual 59, 3) := by decide +kernel
theorem dX5_constraints_107 : decode cX5_constraints 107 = .ok (.bipush 48, 2) := by decide +kernel
theorem dX5_constraints_109 : decode cX5_constraints 109 = .ok (.isub, 1) := by decide +kernel
theorem dX5_constraints_110 : decode cX5_constraints 110 = .ok (.ishl, 1) := by decide +kernel
theorem dX5_constraints_111 : decode cX5_constraints 111 = .ok (.ior, 1) := by decide +kernel
theorem dX5_constraints_112 : decode cX5_constraints 112 = .ok (.istore 4, 2) := by decide +kernel
theorem dX5_constraints_114 : decode cX5_constraints 114 = .ok (.aload_n 0, 1) := by decide +kernel
theorem dX5_constraints_115 : decode cX5_constraints 115 = .ok (.dup, 1) := by decide +kernel
theorem dX5_constraints_116 : decode cX5_constraints 116 = .ok (.getfield 49, 3) := by decide +kernel
theorem dX5_constraints_119 : decode cX5_constraints 119 = .ok (.iconst 1, 1) := by decide +kernel
theorem dX5_constraints_120 : decode cX5_constraints 120 = .ok (.iadd, 1) := by decide +kernel
theorem dX5_constraints_121 : decode cX5_constraints 121 = .ok (.putfield 49, 3) := by decide +kernel
theorem dX5_constraints_124 : decode cX5_constraints 124 = .ok (.goto (-60), 3) := by decide +kernel
theorem dX5_constraints_127 : decode cX5_constraints 127 = .ok (.iload 4, 2) := by decide +kernel
theorem dX5_constraints_129 : decode cX5_constraints 129 = .ok (.ifCond .ne 5, 3) := by decide +kernel
theorem dX5_constraints_132 : decode cX5_constraints 132 = .ok (.iconst 0, 1) := by decide +kernel
theorem dX5_constraints_133 : decode cX5_constraints 133 = .ok (.ireturn, 1) := by decide +kernel
theorem dX5_constraints_134 : decode cX5_constraints 134 = .ok (.aload_n 0, 1) := by decide +kernel
theorem dX5_constraints_135 : decode cX5_constraints 135 = .ok (.getfield 16, 3) := by decide +kernel
theorem dX5_constraints_138 : decode cX5_constraints 138 = .ok (.iload_n 1, 1) := by decide +kernel
theorem dX5_constraints_139 : decode cX5_constraints 139 = .ok (.iconst 1, 1) := by decide +kernel
theorem dX5_constraints_140 : decode cX5_constraints 140 = .ok (.iadd, 1) := by decide +kernel
theorem dX5_constraints_141 : decode cX5_constraints 141 = .ok (.iload_n 3, 1) := by decide +kernel
theorem dX5_constraints_142 : decode cX5_constraints 142 = .ok (.iadd, 1) := by decide +kernel
theorem dX5_constraints_143 : decode cX5_constraints 143 = .ok (.iload 4, 2) := by decide +kernel
theorem dX5_constraints_145 : decode cX5_constraints 145 = .ok (.iastore, 1) := by decide +kernel
theorem dX5_constraints_146 : decode cX5_constraints 146 = .ok (.goto (-144), 3) := by decide +kernel
theorem dX5_constraints_149 : decode cX5_constraints 149 = .ok (.iconst 1, 1) := by decide +kernel
theorem dX5_constraints_150 : decode cX5_constraints 150 = .ok (.ireturn, 1) := by decide +kernel
theorem dX5_rule_0 : decode cX5_rule 0 = .ok (.aload_n 0, 1) := by decide +kernel
theorem dX5_rule_1 : decode cX5_rule 1 = .ok (.getfield 16, 3) := by decide +kernel
theorem dX5_rule_4 : decode cX5_rule 4 = .ok (.bipush 42, 2) := by decide +kernel
theorem dX5_rule_6 : decode cX5_rule 6 = .ok (.iload_n 1, 1) := by decide +kernel
theorem dX5_rule_7 : decode cX5_rule 7 = .ok (.imul, 1) := by decide +kernel
theorem dX5_rule_8 : decode cX5_rule 8 = .ok (.iaload, 1) := by decide +kernel
theorem dX5_rule_9 : decode cX5_rule 9 = .ok (.istore_n 3, 1) := by decide +kernel
theorem dX5_rule_10 : decode cX5_rule 10 = .ok (.iload_n 3, 1) := by decide +kernel
theorem dX5_rule_11 : decode cX5_rule 11 = .ok (.bipush 8, 2) := by decide +kernel
theorem dX5_rule_13 : decode cX5_rule 13 = .ok (.if_icmp .ne 5, 3) := by decide +kernel
theorem dX5_rule_16 : decode cX5_rule 16 = .ok (.iconst 0, 1) := by decide +kernel
theorem dX5_rule_17 : decode cX5_rule 17 = .ok (.ireturn, 1) := by decide +kernel
theorem dX5_rule_18 : decode cX5_rule 18 = .ok (.bipush 42, 2) := by decide +kernel
theorem dX5_rule_20 : decode cX5_rule 20 = .ok (.iload_n 1, 1) := by decide +kernel
theorem dX5_rule_21 : decode cX5_rule 21 = .ok (.imul, 1) := by decide +kernel
theorem dX5_rule_22 : decode cX5_rule 22 = .ok (.iconst 2, 1) := by decide +kernel
theorem dX5_rule_23 : decode cX5_rule 23 = .ok (.iadd, 1) := by decide +kernel
theorem dX5_rule_24 : decode cX5_rule 24 = .ok (.iconst 5, 1) := by decide +kernel
theorem dX5_rule_25 : decode cX5_rule 25 = .ok (.iload_n 3, 1) := by decide +kernel
theorem dX5_rule_26 : decode cX5_rule 26 = .ok (.imul, 1) := by decide +kernel
theorem dX5_rule_27 : decode cX5_rule 27 = .ok (.iadd, 1) := by decide +kernel
theorem dX5_rule_28 : decode cX5_rule 28 = .ok (.istore 4, 2) := by decide +kernel
theorem dX5_rule_30 : decode cX5_rule 30 = .ok (.aload_n 0, 1) := by decide +kernel
theorem dX5_rule_31 : decode cX5_rule 31 = .ok (.getfield 16, 3) := by decide +kernel
theorem dX5_rule_34 : decode cX5_rule 34 = .ok (.iload 4, 2) := by decide +kernel
theorem dX5_rule_36 : decode cX5_rule 36 = .ok (.iload_n 2, 1) := by decide +kernel
theorem dX5_rule_37 : decode cX5_rule 37 = .ok (.iastore, 1) := by decide +kernel
theorem dX5_rule_38 : decode cX5_rule 38 = .ok (.iconst 0, 1) := by decide +kernel
theorem dX5_rule_39 : decode cX5_rule 39 = .ok (.istore 5, 2) := by decide +kernel
theorem dX5_rule_41 : decode cX5_rule 41 = .ok (.iload 5, 2) := by decide +kernel
theorem dX5_rule_43 : decode cX5_rule 43 = .ok (.iconst 4, 1) := by decide +kernel
theorem dX5_rule_44 : decode cX5_rule 44 = .ok (.if_icmp .ge 30, 3) := by decide +kernel
theorem dX5_rule_47 : decode cX5_rule 47 = .ok (.aload_n 0, 1) := by decide +kernel
theorem dX5_rule_48 : decode cX5_rule 48 = .ok (.getfield 16, 3) := by decide +kernel
theorem dX5_rule_51 : decode cX5_rule 51 = .ok (.iload 4, 2) := by decide +kernel
theorem dX5_rule_53 : decode cX5_rule 53 = .ok (.iconst 1, 1) := by decide +kernel
theorem dX5_rule_54 : decode cX5_rule 54 = .ok (.iadd, 1) := by decide +kernel
theorem dX5_rule_55 : decode cX5_rule 55 = .ok (.iload 5, 2) := by decide +kernel
theorem dX5_rule_57 : decode cX5_rule 57 = .ok (.iadd, 1) := by decide +kernel
theorem dX5_rule_58 : decode cX5_rule 58 = .ok (.iconst 1, 1) := by decide +kernel
theorem dX5_rule_59 : decode cX5_rule 59 = .ok (.iload 5, 2) := by decide +kernel
theorem dX5_rule_61 : decode cX5_rule 61 = .ok (.invokestatic 70, 3) := by decide +kernel
theorem dX5_rule_64 : decode cX5_rule 64 = .ok (.ishl, 1) := by decide +kernel
theorem dX5_rule_65 : decode cX5_rule 65 = .ok (.iconst 1, 1) := by decide +kernel
theorem dX5_rule_66 : decode cX5_rule 66 = .ok (.isub, 1) := by decide +kernel
theorem dX5_rule_67 : decode cX5_rule 67 = .ok (.iastore, 1) := by decide +kernel
theorem dX5_rule_68 : decode cX5_rule 68 = .ok (.iinc 5 1, 3) := by decide +kernel
theorem dX5_rule_71 : decode cX5_rule 71 = .ok (.goto (-30), 3) := by decide +kernel
theorem dX5_rule_74 : decode cX5_rule 74 = .ok (.aload_n 0, 1) := by decide +kernel
theorem dX5_rule_75 : decode cX5_rule 75 = .ok (.getfield 16, 3) := by decide +kernel
theorem dX5_rule_78 : decode cX5_rule 78 = .ok (.bipush 42, 2) := by decide +kernel
theorem dX5_rule_80 : decode cX5_rule 80 = .ok (.iload_n 1, 1) := by decide +kernel
theorem dX5_rule_81 : decode cX5_rule 81 = .ok (.imul, 1) := by decide +kernel
theorem dX5_rule_82 : decode cX5_rule 82 = .ok (.dup2, 1) := by decide +kernel
theorem dX5_rule_83 : decode cX5_rule 83 = .ok (.iaload, 1) := by decide +kernel
theorem dX5_rule_84 : decode cX5_rule 84 = .ok (.iconst 1, 1) := by decide +kernel
theorem dX5_rule_85 : decode cX5_rule 85 = .ok (.iadd, 1) := by decide +kernel
theorem dX5_rule_86 : decode cX5_rule 86 = .ok (.iastore, 1) := by decide +kernel
theorem dX5_rule_87 : decode cX5_rule 87 = .ok (.aload_n 0, 1) := by decide +kernel
theorem dX5_rule_88 : decode cX5_rule 88 = .ok (.iload 4, 2) := by decide +kernel
theorem dX5_rule_90 : decode cX5_rule 90 = .ok (.invokevirtual 73, 3) := by decide +kernel
theorem dX5_rule_93 : decode cX5_rule 93 = .ok (.ireturn, 1) := by decide +kernel
theorem dX5_algorithm_0 : decode cX5_algorithm 0 = .ok (.aload_n 0, 1) := by decide +kernel
theorem dX5_algorithm_1 : decode cX5_algorithm 1 = .ok (.bipush 102, 2) := by decide +kernel
theorem dX5_algorithm_3 : decode cX5_algorithm 3 = .ok (.bipush 105, 2) := by decide +kernel
theorem dX5_algorithm_5 : decode cX5_algorithm 5 = .ok (.bipush 114, 2) := by decide +kernel
theorem dX5_algorithm_7 : decode cX5_algorithm 7 = .ok (.bipush 115, 2) := by decide +kernel
theorem dX5_algorithm_9 : decode cX5_algorithm 9 = .ok (.bipush 116, 2) := by decide +kernel
theorem dX5_algorithm_11 : decode cX5_algorithm 11 = .ok (.iconst 0, 1) := by decide +kernel
theorem dX5_algorithm_12 : decode cX5_algorithm 12 = .ok (.iconst 5, 1) := by decide +kernel
theorem dX5_algorithm_13 : decode cX5_algorithm 13 = .ok (.invokevirtual 77, 3) := by decide +kernel
theorem dX5_algorithm_16 : decode cX5_algorithm 16 = .ok (.ifCond .eq 5, 3) := by decide +kernel
theorem dX5_algorithm_19 : decode cX5_algorithm 19 = .ok (.iconst 0, 1) := by decide +kernel
theorem dX5_algorithm_20 : decode cX5_algorithm 20 = .ok (.ireturn, 1) := by decide +kernel
theorem dX5_algorithm_21 : decode cX5_algorithm 21 = .ok (.aload_n 0, 1) := by decide +kernel
theorem dX5_algorithm_22 : decode cX5_algorithm 22 = .ok (.iconst 4, 1) := by decide +kernel
theorem dX5_algorithm_23 : decode cX5_algorithm 23 = .ok (.bipush 111, 2) := by decide +kernel
theorem dX5_algorithm_25 : decode cX5_algorithm 25 = .ok (.bipush 118, 2) := by decide +kernel
theorem dX5_algorithm_27 : decode cX5_algorithm 27 = .ok (.bipush 101, 2) := by decide +kernel
theorem dX5_algorithm_29 : decode cX5_algorithm 29 = .ok (.bipush 114, 2) := by decide +kernel
theorem dX5_algorithm_31 : decode cX5_algorithm 31 = .ok (.invokevirtual 81, 3) := by decide +kernel
theorem dX5_algorithm_34 : decode cX5_algorithm 34 = .ok (.ifCond .eq 33, 3) := by decide +kernel
theorem dX5_algorithm_37 : decode cX5_algorithm 37 = .ok (.aload_n 0, 1) := by decide +kernel
theorem dX5_algorithm_38 : decode cX5_algorithm 38 = .ok (.bipush 100, 2) := by decide +kernel
theorem dX5_algorithm_40 : decode cX5_algorithm 40 = .ok (.bipush 101, 2) := by decide +kernel
theorem dX5_algorithm_42 : decode cX5_algorithm 42 = .ok (.bipush 110, 2) := by decide +kernel
theorem dX5_algorithm_44 : decode cX5_algorithm 44 = .ok (.bipush 121, 2) := by decide +kernel
theorem dX5_algorithm_46 : decode cX5_algorithm 46 = .ok (.iconst 0, 1) := by decide +kernel
theorem dX5_algorithm_47 : decode cX5_algorithm 47 = .ok (.iconst 0, 1) := by decide +kernel
theorem dX5_algorithm_48 : decode cX5_algorithm 48 = .ok (.iconst 4, 1) := by decide +kernel
theorem dX5_algorithm_49 : decode cX5_algorithm 49 = .ok (.invokevirtual 77, 3) := by decide +kernel
theorem dX5_algorithm_52 : decode cX5_algorithm 52 = .ok (.ifCond .eq 15, 3) := by decide +kernel
theorem dX5_algorithm_55 : decode cX5_algorithm 55 = .ok (.aload_n 0, 1) := by decide +kernel
theorem dX5_algorithm_56 : decode cX5_algorithm 56 = .ok (.dup, 1) := by decide +kernel
theorem dX5_algorithm_57 : decode cX5_algorithm 57 = .ok (.getfield 49, 3) := by decide +kernel
theorem dX5_algorithm_60 : decode cX5_algorithm 60 = .ok (.iconst 4, 1) := by decide +kernel
theorem dX5_algorithm_61 : decode cX5_algorithm 61 = .ok (.iadd, 1) := by decide +kernel
theorem dX5_algorithm_62 : decode cX5_algorithm 62 = .ok (.putfield 49, 3) := by decide +kernel
theorem dX5_algorithm_65 : decode cX5_algorithm 65 = .ok (.iconst 1, 1) := by decide +kernel
theorem dX5_algorithm_66 : decode cX5_algorithm 66 = .ok (.ireturn, 1) := by decide +kernel
theorem dX5_algorithm_67 : decode cX5_algorithm 67 = .ok (.aload_n 0, 1) := by decide +kernel
theorem dX5_algorithm_68 : decode cX5_algorithm 68 = .ok (.bipush 6, 2) := by decide +kernel
theorem dX5_algorithm_70 : decode cX5_algorithm 70 = .ok (.bipush 111, 2) := by decide +kernel
theorem dX5_algorithm_72 : decode cX5_algorithm 72 = .ok (.bipush 118, 2) := by decide +kernel
theorem dX5_algorithm_74 : decode cX5_algorithm 74 = .ok (.bipush 101, 2) := by decide +kernel
theorem dX5_algorithm_76 : decode cX5_algorithm 76 = .ok (.bipush 114, 2) := by decide +kernel
theorem dX5_algorithm_78 : decode cX5_algorithm 78 = .ok (.invokevirtual 81, 3) := by decide +kernel
theorem dX5_algorithm_81 : decode cX5_algorithm 81 = .ok (.ifCond .eq 36, 3) := by decide +kernel
theorem dX5_algorithm_84 : decode cX5_algorithm 84 = .ok (.aload_n 0, 1) := by decide +kernel
theorem dX5_algorithm_85 : decode cX5_algorithm 85 = .ok (.bipush 112, 2) := by decide +kernel
theorem dX5_algorithm_87 : decode cX5_algorithm 87 = .ok (.bipush 101, 2) := by decide +kernel
theorem dX5_algorithm_89 : decode cX5_algorithm 89 = .ok (.bipush 114, 2) := by decide +kernel
theorem dX5_algorithm_91 : decode cX5_algorithm 91 = .ok (.bipush 109, 2) := by decide +kernel
theorem dX5_algorithm_93 : decode cX5_algorithm 93 = .ok (.bipush 105, 2) := by decide +kernel
theorem dX5_algorithm_95 : decode cX5_algorithm 95 = .ok (.bipush 116, 2) := by decide +kernel
theorem dX5_algorithm_97 : decode cX5_algorithm 97 = .ok (.bipush 6, 2) := by decide +kernel
theorem dX5_algorithm_99 : decode cX5_algorithm 99 = .ok (.invokevirtual 77, 3) := by decide +kernel
theorem dX5_algorithm_102 : decode cX5_algorithm 102 = .ok (.ifCond .eq 15, 3) := by decide +kernel
theorem dX5_algorithm_105 : decode cX5_algorithm 105 = .ok (.aload_n 0, 1) := by decide +kernel
theorem dX5_algorithm_106 : decode cX5_algorithm 106 = .ok (.dup, 1) := by decide +kernel
theorem dX5_algorithm_107 : decode cX5_algorithm 107 = .ok (.getfield 49, 3) := by decide +kernel
theorem dX5_algorithm_110 : decode cX5_algorithm 110 = .ok (.iconst 4, 1) := by decide +kernel
theorem dX5_algorithm_111 : decode cX5_algorithm 111 = .ok (.iadd, 1) := by decide +kernel
theorem dX5_algorithm_112 : decode cX5_algorithm 112 = .ok (.putfield 49, 3) := by decide +kernel
theorem dX5_algorithm_115 : decode cX5_algorithm 115 = .ok (.iconst 2, 1) := by decide +kernel
theorem dX5_algorithm_116 : decode cX5_algorithm 116 = .ok (.ireturn, 1) := by decide +kernel
theorem dX5_algorithm_117 : decode cX5_algorithm 117 = .ok (.aload_n 0, 1) := by decide +kernel
theorem dX5_algorithm_118 : decode cX5_algorithm 118 = .ok (.bipush 6, 2) := by decide +kernel
theorem dX5_algorithm_120 : decode cX5_algorithm 120 = .ok (.bipush 101, 2) := by decide +kernel
theorem dX5_algorithm_122 : decode cX5_algorithm 122 = .ok (.invokevirtual 52, 3) := by decide +kernel
theorem dX5_algorithm_125 : decode cX5_algorithm 125 = .ok (.ifCond .eq 36, 3) := by decide +kernel
theorem dX5_algorithm_128 : decode cX5_algorithm 128 = .ok (.aload_n 0, 1) := by decide +kernel
theorem dX5_algorithm_129 : decode cX5_algorithm 129 = .ok (.bipush 111, 2) := by decide +kernel
theorem dX5_algorithm_131 : decode cX5_algorithm 131 = .ok (.bipush 110, 2) := by decide +kernel
theorem dX5_algorithm_133 : decode cX5_algorithm 133 = .ok (.bipush 108, 2) := by decide +kernel
theorem dX5_algorithm_135 : decode cX5_algorithm 135 = .ok (.bipush 121, 2) := by decide +kernel
theorem dX5_algorithm_137 : decode cX5_algorithm 137 = .ok (.bipush 111, 2) := by decide +kernel
theorem dX5_algorithm_139 : decode cX5_algorithm 139 = .ok (.bipush 110, 2) := by decide +kernel
theorem dX5_algorithm_141 : decode cX5_algorithm 141 = .ok (.bipush 6, 2) := by decide +kernel
theorem dX5_algorithm_143 : decode cX5_algorithm 143 = .ok (.invokevirtual 77, 3) := by decide +kernel
theorem dX5_algorithm_146 : decode cX5_algorithm 146 = .ok (.ifCond .eq 15, 3) := by decide +kernel
theorem dX5_algorithm_149 : decode cX5_algorithm 149 = .ok (.aload_n 0, 1) := by decide +kernel
theorem dX5_algorithm_150 : decode cX5_algorithm 150 = .ok (.dup, 1) := by decide +kernel
theorem dX5_algorithm_151 : decode cX5_algorithm 151 = .ok (.getfield 49, 3) := by decide +kernel
theorem dX5_algorithm_154 : decode cX5_algorithm 154 = .ok (.iconst 1, 1) := by decide +kernel
theorem dX5_algorithm_155 : decode cX5_algorithm 155 = .ok (.iadd, 1) := by decide +kernel
theorem dX5_algorithm_156 : decode cX5_algorithm 156 = .ok (.putfield 49, 3) := by decide +kernel
theorem dX5_algorithm_159 : decode cX5_algorithm 159 = .ok (.iconst 3, 1) := by decide +kernel
theorem dX5_algorithm_160 : decode cX5_algorithm 160 = .ok (.ireturn, 1) := by decide +kernel
theorem dX5_algorithm_161 : decode cX5_algorithm 161 = .ok (.aload_n 0, 1) := by decide +kernel
theorem dX5_algorithm_162 : decode cX5_algorithm 162 = .ok (.bipush 6, 2) := by decide +kernel
theorem dX5_algorithm_164 : decode cX5_algorithm 164 = .ok (.bipush 116, 2) := by decide +kernel
theorem dX5_algorithm_166 : decode cX5_algorithm 166 = .ok (.invokevirtual 52, 3) := by decide +kernel
theorem dX5_algorithm_169 : decode cX5_algorithm 169 = .ok (.ifCond .eq 47, 3) := by decide +kernel
theorem dX5_algorithm_172 : decode cX5_algorithm 172 = .ok (.aload_n 0, 1) := by decide +kernel
theorem dX5_algorithm_173 : decode cX5_algorithm 173 = .ok (.bipush 7, 2) := by decide +kernel
theorem dX5_algorithm_175 : decode cX5_algorithm 175 = .ok (.bipush 121, 2) := by decide +kernel
theorem dX5_algorithm_177 : decode cX5_algorithm 177 = .ok (.invokevirtual 52, 3) := by decide +kernel
theorem dX5_algorithm_180 : decode cX5_algorithm 180 = .ok (.ifCond .eq 36, 3) := by decide +kernel
theorem dX5_algorithm_183 : decode cX5_algorithm 183 = .ok (.aload_n 0, 1) := by decide +kernel
theorem dX5_algorithm_184 : decode cX5_algorithm 184 = .ok (.bipush 109, 2) := by decide +kernel
theorem dX5_algorithm_186 : decode cX5_algorithm 186 = .ok (.bipush 97, 2) := by decide +kernel
theorem dX5_algorithm_188 : decode cX5_algorithm 188 = .ok (.bipush 106, 2) := by decide +kernel
theorem dX5_algorithm_190 : decode cX5_algorithm 190 = .ok (.bipush 111, 2) := by decide +kernel
theorem dX5_algorithm_192 : decode cX5_algorithm 192 = .ok (.bipush 114, 2) := by decide +kernel
theorem dX5_algorithm_194 : decode cX5_algorithm 194 = .ok (.bipush 105, 2) := by decide +kernel
theorem dX5_algorithm_196 : decode cX5_algorithm 196 = .ok (.bipush 6, 2) := by decide +kernel
theorem dX5_algorithm_198 : decode cX5_algorithm 198 = .ok (.invokevirtual 77, 3) := by decide +kernel
theorem dX5_algorithm_201 : decode cX5_algorithm 201 = .ok (.ifCond .eq 15, 3) := by decide +kernel
theorem dX5_algorithm_204 : decode cX5_algorithm 204 = .ok (.aload_n 0, 1) := by decide +kernel
theorem dX5_algorithm_205 : decode cX5_algorithm 205 = .ok (.dup, 1) := by decide +kernel
theorem dX5_algorithm_206 : decode cX5_algorithm 206 = .ok (.getfield 49, 3) := by decide +kernel
theorem dX5_algorithm_209 : decode cX5_algorithm 209 = .ok (.iconst 2, 1) := by decide +kernel
theorem dX5_algorithm_210 : decode cX5_algorithm 210 = .ok (.iadd, 1) := by decide +kernel
theorem dX5_algorithm_211 : decode cX5_algorithm 211 = .ok (.putfield 49, 3) := by decide +kernel
theorem dX5_algorithm_214 : decode cX5_algorithm 214 = .ok (.iconst 4, 1) := by decide +kernel
theorem dX5_algorithm_215 : decode cX5_algorithm 215 = .ok (.ireturn, 1) := by decide +kernel
theorem dX5_algorithm_216 : decode cX5_algorithm 216 = .ok (.bipush (-4), 2) := by decide +kernel
theorem dX5_algorithm_218 : decode cX5_algorithm 218 = .ok (.ireturn, 1) := by decide +kernel
theorem dX5_statement_0 : decode cX5_statement 0 = .ok (.aload_n 0, 1) := by decide +kernel
theorem dX5_statement_1 : decode cX5_statement 1 = .ok (.bipush 111, 2) := by decide +kernel
theorem dX5_statement_3 : decode cX5_statement 3 = .ok (.bipush 108, 2) := by decide +kernel
theorem dX5_statement_5 : decode cX5_statement 5 = .ok (.bipush 100, 2) := by decide +kernel
theorem dX5_statement_7 : decode cX5_statement 7 = .ok (.iconst 0, 1) := by decide +kernel
theorem dX5_statement_8 : decode cX5_statement 8 = .ok (.iconst 0, 1) := by decide +kernel
theorem dX5_statement_9 : decode cX5_statement 9 = .ok (.iconst 0, 1) := by decide +kernel
theorem dX5_statement_10 : decode cX5_statement 10 = .ok (.iconst 3, 1) := by decide +kernel
theorem dX5_statement_11 : decode cX5_statement 11 = .ok (.invokevirtual 77, 3) := by decide +kernel
theorem dX5_statement_14 : decode cX5_statement 14 = .ok (.ifCond .eq 10, 3) := by decide +kernel
theorem dX5_statement_17 : decode cX5_statement 17 = .ok (.aload_n 0, 1) := by decide +kernel
theorem dX5_statement_18 : decode cX5_statement 18 = .ok (.iconst 0, 1) := by decide +kernel
theorem dX5_statement_19 : decode cX5_statement 19 = .ok (.putfield 85, 3) := by decide +kernel
theorem dX5_statement_22 : decode cX5_statement 22 = .ok (.iconst 1, 1) := by decide +kernel
theorem dX5_statement_23 : decode cX5_statement 23 = .ok (.ireturn, 1) := by decide +kernel
theorem dX5_statement_24 : decode cX5_statement 24 = .ok (.aload_n 0, 1) := by decide +kernel
theorem dX5_statement_25 : decode cX5_statement 25 = .ok (.bipush 110, 2) := by decide +kernel
theorem dX5_statement_27 : decode cX5_statement 27 = .ok (.bipush 101, 2) := by decide +kernel
theorem dX5_statement_29 : decode cX5_statement 29 = .ok (.bipush 119, 2) := by decide +kernel
theorem dX5_statement_31 : decode cX5_statement 31 = .ok (.iconst 0, 1) := by decide +kernel
theorem dX5_statement_32 : decode cX5_statement 32 = .ok (.iconst 0, 1) := by decide +kernel
theorem dX5_statement_33 : decode cX5_statement 33 = .ok (.iconst 0, 1) := by decide +kernel
theorem dX5_statement_34 : decode cX5_statement 34 = .ok (.iconst 3, 1) := by decide +kernel
theorem dX5_statement_35 : decode cX5_statement 35 = .ok (.invokevirtual 77, 3) := by decide +kernel
theorem dX5_statement_38 : decode cX5_statement 38 = .ok (.ifCond .eq 10, 3) := by decide +kernel
theorem dX5_statement_41 : decode cX5_statement 41 = .ok (.aload_n 0, 1) := by decide +kernel
theorem dX5_statement_42 : decode cX5_statement 42 = .ok (.iconst 1, 1) := by decide +kernel
theorem dX5_statement_43 : decode cX5_statement 43 = .ok (.putfield 85, 3) := by decide +kernel
theorem dX5_statement_46 : decode cX5_statement 46 = .ok (.iconst 1, 1) := by decide +kernel
theorem dX5_statement_47 : decode cX5_statement 47 = .ok (.ireturn, 1) := by decide +kernel
theorem dX5_statement_48 : decode cX5_statement 48 = .ok (.aload_n 0, 1) := by decide +kernel
theorem dX5_statement_49 : decode cX5_statement 49 = .ok (.bipush 112, 2) := by decide +kernel
theorem dX5_statement_51 : decode cX5_statement 51 = .ok (.bipush 101, 2) := by decide +kernel
theorem dX5_statement_53 : decode cX5_statement 53 = .ok (.bipush 114, 2) := by decide +kernel
theorem dX5_statement_55 : decode cX5_statement 55 = .ok (.bipush 109, 2) := by decide +kernel
theorem dX5_statement_57 : decode cX5_statement 57 = .ok (.bipush 105, 2) := by decide +kernel
theorem dX5_statement_59 : decode cX5_statement 59 = .ok (.bipush 116, 2) := by decide +kernel
theorem dX5_statement_61 : decode cX5_statement 61 = .ok (.bipush 6, 2) := by decide +kernel
theorem dX5_statement_63 : decode cX5_statement 63 = .ok (.invokevirtual 77, 3) := by decide +kernel
theorem dX5_statement_66 : decode cX5_statement 66 = .ok (.ifCond .eq 13, 3) := by decide +kernel
theorem dX5_statement_69 : decode cX5_statement 69 = .ok (.aload_n 0, 1) := by decide +kernel
theorem dX5_statement_70 : decode cX5_statement 70 = .ok (.aload_n 0, 1) := by decide +kernel
theorem dX5_statement_71 : decode cX5_statement 71 = .ok (.getfield 85, 3) := by decide +kernel
theorem dX5_statement_74 : decode cX5_statement 74 = .ok (.iconst 0, 1) := by decide +kernel
theorem dX5_statement_75 : decode cX5_statement 75 = .ok (.invokevirtual 88, 3) := by decide +kernel
theorem dX5_statement_78 : decode cX5_statement 78 = .ok (.ireturn, 1) := by decide +kernel
theorem dX5_statement_79 : decode cX5_statement 79 = .ok (.aload_n 0, 1) := by decide +kernel
theorem dX5_statement_80 : decode cX5_statement 80 = .ok (.bipush 100, 2) := by decide +kernel
theorem dX5_statement_82 : decode cX5_statement 82 = .ok (.bipush 101, 2) := by decide +kernel
theorem dX5_statement_84 : decode cX5_statement 84 = .ok (.bipush 110, 2) := by decide +kernel
theorem dX5_statement_86 : decode cX5_statement 86 = .ok (.bipush 121, 2) := by decide +kernel
theorem dX5_statement_88 : decode cX5_statement 88 = .ok (.iconst 0, 1) := by decide +kernel
theorem dX5_statement_89 : decode cX5_statement 89 = .ok (.iconst 0, 1) := by decide +kernel
theorem dX5_statement_90 : decode cX5_statement 90 = .ok (.iconst 4, 1) := by decide +kernel
theorem dX5_statement_91 : decode cX5_statement 91 = .ok (.invokevirtual 77, 3) := by decide +kernel
theorem dX5_statement_94 : decode cX5_statement 94 = .ok (.ifCond .eq 13, 3) := by decide +kernel
theorem dX5_statement_97 : decode cX5_statement 97 = .ok (.aload_n 0, 1) := by decide +kernel
theorem dX5_statement_98 : decode cX5_statement 98 = .ok (.aload_n 0, 1) := by decide +kernel
theorem dX5_statement_99 : decode cX5_statement 99 = .ok (.getfield 85, 3) := by decide +kernel
theorem dX5_statement_102 : decode cX5_statement 102 = .ok (.iconst 1, 1) := by decide +kernel
theorem dX5_statement_103 : decode cX5_statement 103 = .ok (.invokevirtual 88, 3) := by decide +kernel
theorem dX5_statement_106 : decode cX5_statement 106 = .ok (.ireturn, 1) := by decide +kernel
theorem dX5_statement_107 : decode cX5_statement 107 = .ok (.aload_n 0, 1) := by decide +kernel
theorem dX5_statement_108 : decode cX5_statement 108 = .ok (.bipush 117, 2) := by decide +kernel
theorem dX5_statement_110 : decode cX5_statement 110 = .ok (.bipush 115, 2) := by decide +kernel
theorem dX5_statement_112 : decode cX5_statement 112 = .ok (.bipush 101, 2) := by decide +kernel
theorem dX5_statement_114 : decode cX5_statement 114 = .ok (.iconst 0, 1) := by decide +kernel
theorem dX5_statement_115 : decode cX5_statement 115 = .ok (.iconst 0, 1) := by decide +kernel
theorem dX5_statement_116 : decode cX5_statement 116 = .ok (.iconst 0, 1) := by decide +kernel
theorem dX5_statement_117 : decode cX5_statement 117 = .ok (.iconst 3, 1) := by decide +kernel
theorem dX5_statement_118 : decode cX5_statement 118 = .ok (.invokevirtual 77, 3) := by decide +kernel
theorem dX5_statement_121 : decode cX5_statement 121 = .ok (.ifCond .ne 5, 3) := by decide +kernel
theorem dX5_statement_124 : decode cX5_statement 124 = .ok (.iconst 0, 1) := by decide +kernel
theorem dX5_statement_125 : decode cX5_statement 125 = .ok (.ireturn, 1) := by decide +kernel
theorem dX5_statement_126 : decode cX5_statement 126 = .ok (.aload_n 0, 1) := by decide +kernel
theorem dX5_statement_127 : decode cX5_statement 127 = .ok (.invokevirtual 91, 3) := by decide +kernel
theorem dX5_statement_130 : decode cX5_statement 130 = .ok (.istore_n 1, 1) := by decide +kernel
theorem dX5_statement_131 : decode cX5_statement 131 = .ok (.aload_n 0, 1) := by decide +kernel
theorem dX5_statement_132 : decode cX5_statement 132 = .ok (.getfield 16, 3) := by decide +kernel
theorem dX5_statement_135 : decode cX5_statement 135 = .ok (.bipush 42, 2) := by decide +kernel
theorem dX5_statement_137 : decode cX5_statement 137 = .ok (.aload_n 0, 1) := by decide +kernel
theorem dX5_statement_138 : decode cX5_statement 138 = .ok (.getfield 85, 3) := by decide +kernel
theorem dX5_statement_141 : decode cX5_statement 141 = .ok (.imul, 1) := by decide +kernel
theorem dX5_statement_142 : decode cX5_statement 142 = .ok (.iconst 1, 1) := by decide +kernel
theorem dX5_statement_143 : decode cX5_statement 143 = .ok (.iadd, 1) := by decide +kernel
theorem dX5_statement_144 : decode cX5_statement 144 = .ok (.iload_n 1, 1) := by decide +kernel
theorem dX5_statement_145 : decode cX5_statement 145 = .ok (.iastore, 1) := by decide +kernel
theorem dX5_statement_146 : decode cX5_statement 146 = .ok (.iload_n 1, 1) := by decide +kernel
theorem dX5_statement_147 : decode cX5_statement 147 = .ok (.bipush (-4), 2) := by decide +kernel
theorem dX5_statement_149 : decode cX5_statement 149 = .ok (.if_icmp .eq 7, 3) := by decide +kernel
theorem dX5_statement_152 : decode cX5_statement 152 = .ok (.iconst 1, 1) := by decide +kernel
theorem dX5_statement_153 : decode cX5_statement 153 = .ok (.goto 4, 3) := by decide +kernel
theorem dX5_statement_156 : decode cX5_statement 156 = .ok (.iconst 0, 1) := by decide +kernel
theorem dX5_statement_157 : decode cX5_statement 157 = .ok (.ireturn, 1) := by decide +kernel
theorem dX5_syntaxError_0 : decode cX5_syntaxError 0 = .ok (.aload_n 0, 1) := by decide +kernel
theorem dX5_syntaxError_1 : decode cX5_syntaxError 1 = .ok (.invokevirtual 31, 3) := by decide +kernel
theorem dX5_syntaxError_4 : decode cX5_syntaxError 4 = .ok (.aload_n 0, 1) := by decide +kernel
theorem dX5_syntaxError_5 : decode cX5_syntaxError 5 = .ok (.iconst 0, 1) := by decide +kernel
theorem dX5_syntaxError_6 : decode cX5_syntaxError 6 = .ok (.putfield 49, 3) := by decide +kernel
theorem dX5_syntaxError_9 : decode cX5_syntaxError 9 = .ok (.aload_n 0, 1) := by decide +kernel
theorem dX5_syntaxError_10 : decode cX5_syntaxError 10 = .ok (.iconst 0, 1) := by decide +kernel
theorem dX5_syntaxError_11 : decode cX5_syntaxError 11 = .ok (.putfield 85, 3) := by decide +kernel
theorem dX5_syntaxError_14 : decode cX5_syntaxError 14 = .ok (.aload_n 0, 1) := by decide +kernel
theorem dX5_syntaxError_15 : decode cX5_syntaxError 15 = .ok (.getfield 49, 3) := by decide +kernel
theorem dX5_syntaxError_18 : decode cX5_syntaxError 18 = .ok (.aload_n 0, 1) := by decide +kernel
theorem dX5_syntaxError_19 : decode cX5_syntaxError 19 = .ok (.getfield 45, 3) := by decide +kernel
theorem dX5_syntaxError_22 : decode cX5_syntaxError 22 = .ok (.if_icmp .ge 39, 3) := by decide +kernel
theorem dX5_syntaxError_25 : decode cX5_syntaxError 25 = .ok (.aload_n 0, 1) := by decide +kernel
theorem dX5_syntaxError_26 : decode cX5_syntaxError 26 = .ok (.getfield 49, 3) := by decide +kernel
theorem dX5_syntaxError_29 : decode cX5_syntaxError 29 = .ok (.istore_n 1, 1) := by decide +kernel
theorem dX5_syntaxError_30 : decode cX5_syntaxError 30 = .ok (.aload_n 0, 1) := by decide +kernel
theorem dX5_syntaxError_31 : decode cX5_syntaxError 31 = .ok (.invokevirtual 94, 3) := by decide +kernel
theorem dX5_syntaxError_34 : decode cX5_syntaxError 34 = .ok (.ifCond .eq 12, 3) := by decide +kernel
theorem dX5_syntaxError_37 : decode cX5_syntaxError 37 = .ok (.aload_n 0, 1) := by decide +kernel
theorem dX5_syntaxError_38 : decode cX5_syntaxError 38 = .ok (.invokevirtual 59, 3) := by decide +kernel
theorem dX5_syntaxError_41 : decode cX5_syntaxError 41 = .ok (.bipush 59, 2) := by decide +kernel
theorem dX5_syntaxError_43 : decode cX5_syntaxError 43 = .ok (.if_icmp .eq 5, 3) := by decide +kernel
theorem dX5_syntaxError_46 : decode cX5_syntaxError 46 = .ok (.iload_n 1, 1) := by decide +kernel
theorem dX5_syntaxError_47 : decode cX5_syntaxError 47 = .ok (.ireturn, 1) := by decide +kernel
theorem dX5_syntaxError_48 : decode cX5_syntaxError 48 = .ok (.aload_n 0, 1) := by decide +kernel
theorem dX5_syntaxError_49 : decode cX5_syntaxError 49 = .ok (.dup, 1) := by decide +kernel
theorem dX5_syntaxError_50 : decode cX5_syntaxError 50 = .ok (.getfield 49, 3) := by decide +kernel
theorem dX5_syntaxError_53 : decode cX5_syntaxError 53 = .ok (.iconst 1, 1) := by decide +kernel
theorem dX5_syntaxError_54 : decode cX5_syntaxError 54 = .ok (.iadd, 1) := by decide +kernel
theorem dX5_syntaxError_55 : decode cX5_syntaxError 55 = .ok (.putfield 49, 3) := by decide +kernel
theorem dX5_syntaxError_58 : decode cX5_syntaxError 58 = .ok (.goto (-44), 3) := by decide +kernel
theorem dX5_syntaxError_61 : decode cX5_syntaxError 61 = .ok (.bipush (-4), 2) := by decide +kernel
theorem dX5_syntaxError_63 : decode cX5_syntaxError 63 = .ok (.ireturn, 1) := by decide +kernel
theorem dX5_load_0 : decode cX5_load 0 = .ok (.aload_n 0, 1) := by decide +kernel
theorem dX5_load_1 : decode cX5_load 1 = .ok (.invokevirtual 98, 3) := by decide +kernel
theorem dX5_load_4 : decode cX5_load 4 = .ok (.bipush (-4), 2) := by decide +kernel
theorem dX5_load_6 : decode cX5_load 6 = .ok (.if_icmp .eq 6, 3) := by decide +kernel
theorem dX5_load_9 : decode cX5_load 9 = .ok (.bipush (-3), 2) := by decide +kernel
theorem dX5_load_11 : decode cX5_load 11 = .ok (.ireturn, 1) := by decide +kernel
theorem dX5_load_12 : decode cX5_load 12 = .ok (.aload_n 0, 1) := by decide +kernel
theorem dX5_load_13 : decode cX5_load 13 = .ok (.invokevirtual 38, 3) := by decide +kernel
theorem dX5_load_16 : decode cX5_load 16 = .ok (.aload_n 0, 1) := by decide +kernel
theorem dX5_load_17 : decode cX5_load 17 = .ok (.getfield 13, 3) := by decide +kernel
theorem dX5_load_20 : decode cX5_load 20 = .ok (.iconst 0, 1) := by decide +kernel
theorem dX5_load_21 : decode cX5_load 21 = .ok (.iaload, 1) := by decide +kernel
theorem dX5_load_22 : decode cX5_load 22 = .ok (.aload_n 0, 1) := by decide +kernel
theorem dX5_load_23 : decode cX5_load 23 = .ok (.getfield 13, 3) := by decide +kernel
theorem dX5_load_26 : decode cX5_load 26 = .ok (.bipush 42, 2) := by decide +kernel
theorem dX5_load_28 : decode cX5_load 28 = .ok (.iaload, 1) := by decide +kernel
theorem dX5_load_29 : decode cX5_load 29 = .ok (.iadd, 1) := by decide +kernel
theorem dX5_load_30 : decode cX5_load 30 = .ok (.ireturn, 1) := by decide +kernel
theorem dX5_edit_0 : decode cX5_edit 0 = .ok (.aload_n 0, 1) := by decide +kernel
theorem dX5_edit_1 : decode cX5_edit 1 = .ok (.getfield 56, 3) := by decide +kernel
theorem dX5_edit_4 : decode cX5_edit 4 = .ok (.iconst 4, 1) := by decide +kernel
theorem dX5_edit_5 : decode cX5_edit 5 = .ok (.if_icmp .ne 43, 3) := by decide +kernel
theorem dX5_edit_8 : decode cX5_edit 8 = .ok (.iconst 0, 1) := by decide +kernel
theorem dX5_edit_9 : decode cX5_edit 9 = .ok (.istore_n 1, 1) := by decide +kernel
theorem dX5_edit_10 : decode cX5_edit 10 = .ok (.iload_n 1, 1) := by decide +kernel
theorem dX5_edit_11 : decode cX5_edit 11 = .ok (.sipush 252, 3) := by decide +kernel
theorem dX5_edit_14 : decode cX5_edit 14 = .ok (.if_icmp .ge 24, 3) := by decide +kernel
theorem dX5_edit_17 : decode cX5_edit 17 = .ok (.aload_n 0, 1) := by decide +kernel
theorem dX5_edit_18 : decode cX5_edit 18 = .ok (.getfield 19, 3) := by decide +kernel
theorem dX5_edit_21 : decode cX5_edit 21 = .ok (.iload_n 1, 1) := by decide +kernel
theorem dX5_edit_22 : decode cX5_edit 22 = .ok (.aload_n 0, 1) := by decide +kernel
theorem dX5_edit_23 : decode cX5_edit 23 = .ok (.getfield 19, 3) := by decide +kernel
theorem dX5_edit_26 : decode cX5_edit 26 = .ok (.iload_n 1, 1) := by decide +kernel
theorem dX5_edit_27 : decode cX5_edit 27 = .ok (.bipush 84, 2) := by decide +kernel
theorem dX5_edit_29 : decode cX5_edit 29 = .ok (.iadd, 1) := by decide +kernel
theorem dX5_edit_30 : decode cX5_edit 30 = .ok (.iaload, 1) := by decide +kernel
theorem dX5_edit_31 : decode cX5_edit 31 = .ok (.iastore, 1) := by decide +kernel
theorem dX5_edit_32 : decode cX5_edit 32 = .ok (.iinc 1 1, 3) := by decide +kernel
theorem dX5_edit_35 : decode cX5_edit 35 = .ok (.goto (-25), 3) := by decide +kernel
theorem dX5_edit_38 : decode cX5_edit 38 = .ok (.aload_n 0, 1) := by decide +kernel
theorem dX5_edit_39 : decode cX5_edit 39 = .ok (.dup, 1) := by decide +kernel
theorem dX5_edit_40 : decode cX5_edit 40 = .ok (.getfield 56, 3) := by decide +kernel
theorem dX5_edit_43 : decode cX5_edit 43 = .ok (.iconst 1, 1) := by decide +kernel
theorem dX5_edit_44 : decode cX5_edit 44 = .ok (.isub, 1) := by decide +kernel
theorem dX5_edit_45 : decode cX5_edit 45 = .ok (.putfield 56, 3) := by decide +kernel
theorem dX5_edit_48 : decode cX5_edit 48 = .ok (.iconst 0, 1) := by decide +kernel
theorem dX5_edit_49 : decode cX5_edit 49 = .ok (.istore_n 1, 1) := by decide +kernel
theorem dX5_edit_50 : decode cX5_edit 50 = .ok (.iload_n 1, 1) := by decide +kernel
theorem dX5_edit_51 : decode cX5_edit 51 = .ok (.bipush 84, 2) := by decide +kernel
theorem dX5_edit_53 : decode cX5_edit 53 = .ok (.if_icmp .ge 29, 3) := by decide +kernel
theorem dX5_edit_56 : decode cX5_edit 56 = .ok (.aload_n 0, 1) := by decide +kernel
theorem dX5_edit_57 : decode cX5_edit 57 = .ok (.getfield 19, 3) := by decide +kernel
theorem dX5_edit_60 : decode cX5_edit 60 = .ok (.bipush 84, 2) := by decide +kernel
theorem dX5_edit_62 : decode cX5_edit 62 = .ok (.aload_n 0, 1) := by decide +kernel
theorem dX5_edit_63 : decode cX5_edit 63 = .ok (.getfield 56, 3) := by decide +kernel
theorem dX5_edit_66 : decode cX5_edit 66 = .ok (.imul, 1) := by decide +kernel
theorem dX5_edit_67 : decode cX5_edit 67 = .ok (.iload_n 1, 1) := by decide +kernel
theorem dX5_edit_68 : decode cX5_edit 68 = .ok (.iadd, 1) := by decide +kernel
theorem dX5_edit_69 : decode cX5_edit 69 = .ok (.aload_n 0, 1) := by decide +kernel
theorem dX5_edit_70 : decode cX5_edit 70 = .ok (.getfield 13, 3) := by decide +kernel
theorem dX5_edit_73 : decode cX5_edit 73 = .ok (.iload_n 1, 1) := by decide +kernel
theorem dX5_edit_74 : decode cX5_edit 74 = .ok (.iaload, 1) := by decide +kernel
theorem dX5_edit_75 : decode cX5_edit 75 = .ok (.iastore, 1) := by decide +kernel
theorem dX5_edit_76 : decode cX5_edit 76 = .ok (.iinc 1 1, 3) := by decide +kernel
theorem dX5_edit_79 : decode cX5_edit 79 = .ok (.goto (-29), 3) := by decide +kernel
theorem dX5_edit_82 : decode cX5_edit 82 = .ok (.aload_n 0, 1) := by decide +kernel
theorem dX5_edit_83 : decode cX5_edit 83 = .ok (.dup, 1) := by decide +kernel
theorem dX5_edit_84 : decode cX5_edit 84 = .ok (.getfield 56, 3) := by decide +kernel
theorem dX5_edit_87 : decode cX5_edit 87 = .ok (.iconst 1, 1) := by decide +kernel
theorem dX5_edit_88 : decode cX5_edit 88 = .ok (.iadd, 1) := by decide +kernel
theorem dX5_edit_89 : decode cX5_edit 89 = .ok (.putfield 56, 3) := by decide +kernel
theorem dX5_edit_92 : decode cX5_edit 92 = .ok (.return_, 1) := by decide +kernel
theorem dX5_undo_0 : decode cX5_undo 0 = .ok (.aload_n 0, 1) := by decide +kernel
theorem dX5_undo_1 : decode cX5_undo 1 = .ok (.getfield 56, 3) := by decide +kernel
theorem dX5_undo_4 : decode cX5_undo 4 = .ok (.ifCond .ne 6, 3) := by decide +kernel
theorem dX5_undo_7 : decode cX5_undo 7 = .ok (.bipush (-3), 2) := by decide +kernel
theorem dX5_undo_9 : decode cX5_undo 9 = .ok (.ireturn, 1) := by decide +kernel
theorem dX5_undo_10 : decode cX5_undo 10 = .ok (.aload_n 0, 1) := by decide +kernel
theorem dX5_undo_11 : decode cX5_undo 11 = .ok (.dup, 1) := by decide +kernel
theorem dX5_undo_12 : decode cX5_undo 12 = .ok (.getfield 56, 3) := by decide +kernel
theorem dX5_undo_15 : decode cX5_undo 15 = .ok (.iconst 1, 1) := by decide +kernel
theorem dX5_undo_16 : decode cX5_undo 16 = .ok (.isub, 1) := by decide +kernel
theorem dX5_undo_17 : decode cX5_undo 17 = .ok (.putfield 56, 3) := by decide +kernel
theorem dX5_undo_20 : decode cX5_undo 20 = .ok (.iconst 0, 1) := by decide +kernel
theorem dX5_undo_21 : decode cX5_undo 21 = .ok (.istore_n 1, 1) := by decide +kernel
theorem dX5_undo_22 : decode cX5_undo 22 = .ok (.iload_n 1, 1) := by decide +kernel
theorem dX5_undo_23 : decode cX5_undo 23 = .ok (.bipush 84, 2) := by decide +kernel
theorem dX5_undo_25 : decode cX5_undo 25 = .ok (.if_icmp .ge 29, 3) := by decide +kernel
theorem dX5_undo_28 : decode cX5_undo 28 = .ok (.aload_n 0, 1) := by decide +kernel
theorem dX5_undo_29 : decode cX5_undo 29 = .ok (.getfield 13, 3) := by decide +kernel
theorem dX5_undo_32 : decode cX5_undo 32 = .ok (.iload_n 1, 1) := by decide +kernel
theorem dX5_undo_33 : decode cX5_undo 33 = .ok (.aload_n 0, 1) := by decide +kernel
theorem dX5_undo_34 : decode cX5_undo 34 = .ok (.getfield 19, 3) := by decide +kernel
theorem dX5_undo_37 : decode cX5_undo 37 = .ok (.bipush 84, 2) := by decide +kernel
theorem dX5_undo_39 : decode cX5_undo 39 = .ok (.aload_n 0, 1) := by decide +kernel
theorem dX5_undo_40 : decode cX5_undo 40 = .ok (.getfield 56, 3) := by decide +kernel
theorem dX5_undo_43 : decode cX5_undo 43 = .ok (.imul, 1) := by decide +kernel
theorem dX5_undo_44 : decode cX5_undo 44 = .ok (.iload_n 1, 1) := by decide +kernel
theorem dX5_undo_45 : decode cX5_undo 45 = .ok (.iadd, 1) := by decide +kernel
theorem dX5_undo_46 : decode cX5_undo 46 = .ok (.iaload, 1) := by decide +kernel
theorem dX5_undo_47 : decode cX5_undo 47 = .ok (.iastore, 1) := by decide +kernel
theorem dX5_undo_48 : decode cX5_undo 48 = .ok (.iinc 1 1, 3) := by decide +kernel
theorem dX5_undo_51 : decode cX5_undo 51 = .ok (.goto (-29), 3) := by decide +kernel
theorem dX5_undo_54 : decode cX5_undo 54 = .ok (.aload_n 0, 1) := by decide +kernel
theorem dX5_undo_55 : decode cX5_undo 55 = .ok (.getfield 56, 3) := by decide +kernel
theorem dX5_undo_58 : decode cX5_undo 58 = .ok (.ireturn, 1) := by decide +kernel
theorem dX5_isPolicy_0 : decode cX5_isPolicy 0 = .ok (.iload_n 0, 1) := by decide +kernel
theorem dX5_isPolicy_1 : decode cX5_isPolicy 1 = .ok (.iconst 0, 1) := by decide +kernel
theorem dX5_isPolicy_2 : decode cX5_isPolicy 2 = .ok (.iconst 1, 1) := by decide +kernel
theorem dX5_isPolicy_3 : decode cX5_isPolicy 3 = .ok (.invokestatic 41, 3) := by decide +kernel
theorem dX5_isPolicy_6 : decode cX5_isPolicy 6 = .ok (.ireturn, 1) := by decide +kernel
theorem dX5_isRule_0 : decode cX5_isRule 0 = .ok (.iload_n 1, 1) := by decide +kernel
theorem dX5_isRule_1 : decode cX5_isRule 1 = .ok (.invokestatic 101, 3) := by decide +kernel
theorem dX5_isRule_4 : decode cX5_isRule 4 = .ok (.ifCond .eq 26, 3) := by decide +kernel
theorem dX5_isRule_7 : decode cX5_isRule 7 = .ok (.iload_n 2, 1) := by decide +kernel
theorem dX5_isRule_8 : decode cX5_isRule 8 = .ok (.iconst 0, 1) := by decide +kernel
theorem dX5_isRule_9 : decode cX5_isRule 9 = .ok (.aload_n 0, 1) := by decide +kernel
theorem dX5_isRule_10 : decode cX5_isRule 10 = .ok (.getfield 13, 3) := by decide +kernel
theorem dX5_isRule_13 : decode cX5_isRule 13 = .ok (.bipush 42, 2) := by decide +kernel
theorem dX5_isRule_15 : decode cX5_isRule 15 = .ok (.iload_n 1, 1) := by decide +kernel
theorem dX5_isRule_16 : decode cX5_isRule 16 = .ok (.imul, 1) := by decide +kernel
theorem dX5_isRule_17 : decode cX5_isRule 17 = .ok (.iaload, 1) := by decide +kernel
theorem dX5_isRule_18 : decode cX5_isRule 18 = .ok (.iconst 1, 1) := by decide +kernel
theorem dX5_isRule_19 : decode cX5_isRule 19 = .ok (.isub, 1) := by decide +kernel
theorem dX5_isRule_20 : decode cX5_isRule 20 = .ok (.invokestatic 41, 3) := by decide +kernel
theorem dX5_isRule_23 : decode cX5_isRule 23 = .ok (.ifCond .eq 7, 3) := by decide +kernel
theorem dX5_isRule_26 : decode cX5_isRule 26 = .ok (.iconst 1, 1) := by decide +kernel
theorem dX5_isRule_27 : decode cX5_isRule 27 = .ok (.goto 4, 3) := by decide +kernel
theorem dX5_isRule_30 : decode cX5_isRule 30 = .ok (.iconst 0, 1) := by decide +kernel
theorem dX5_isRule_31 : decode cX5_isRule 31 = .ok (.ireturn, 1) := by decide +kernel
theorem dX5_copies_0 : decode cX5_copies 0 = .ok (.bipush 42, 2) := by decide +kernel
theorem dX5_copies_2 : decode cX5_copies 2 = .ok (.iload_n 1, 1) := by decide +kernel
theorem dX5_copies_3 : decode cX5_copies 3 = .ok (.imul, 1) := by decide +kernel
theorem dX5_copies_4 : decode cX5_copies 4 = .ok (.iconst 2, 1) := by decide +kernel
theorem dX5_copies_5 : decode cX5_copies 5 = .ok (.iadd, 1) := by decide +kernel
theorem dX5_copies_6 : decode cX5_copies 6 = .ok (.istore 4, 2) := by decide +kernel
theorem dX5_copies_8 : decode cX5_copies 8 = .ok (.iconst 0, 1) := by decide +kernel
theorem dX5_copies_9 : decode cX5_copies 9 = .ok (.istore 5, 2) := by decide +kernel
theorem dX5_copies_11 : decode cX5_copies 11 = .ok (.iload 5, 2) := by decide +kernel
theorem dX5_copies_13 : decode cX5_copies 13 = .ok (.iconst 5, 1) := by decide +kernel
theorem dX5_copies_14 : decode cX5_copies 14 = .ok (.if_icmp .ge 37, 3) := by decide +kernel
theorem dX5_copies_17 : decode cX5_copies 17 = .ok (.aload_n 0, 1) := by decide +kernel
theorem dX5_copies_18 : decode cX5_copies 18 = .ok (.getfield 13, 3) := by decide +kernel
theorem dX5_copies_21 : decode cX5_copies 21 = .ok (.iload 4, 2) := by decide +kernel
theorem dX5_copies_23 : decode cX5_copies 23 = .ok (.iconst 5, 1) := by decide +kernel
theorem dX5_copies_24 : decode cX5_copies 24 = .ok (.iload_n 3, 1) := by decide +kernel
theorem dX5_copies_25 : decode cX5_copies 25 = .ok (.imul, 1) := by decide +kernel
theorem dX5_copies_26 : decode cX5_copies 26 = .ok (.iadd, 1) := by decide +kernel
theorem dX5_copies_27 : decode cX5_copies 27 = .ok (.iload 5, 2) := by decide +kernel
theorem dX5_copies_29 : decode cX5_copies 29 = .ok (.iadd, 1) := by decide +kernel
theorem dX5_copies_30 : decode cX5_copies 30 = .ok (.aload_n 0, 1) := by decide +kernel
theorem dX5_copies_31 : decode cX5_copies 31 = .ok (.getfield 13, 3) := by decide +kernel
theorem dX5_copies_34 : decode cX5_copies 34 = .ok (.iload 4, 2) := by decide +kernel
theorem dX5_copies_36 : decode cX5_copies 36 = .ok (.iconst 5, 1) := by decide +kernel
theorem dX5_copies_37 : decode cX5_copies 37 = .ok (.iload_n 2, 1) := by decide +kernel
theorem dX5_copies_38 : decode cX5_copies 38 = .ok (.imul, 1) := by decide +kernel
theorem dX5_copies_39 : decode cX5_copies 39 = .ok (.iadd, 1) := by decide +kernel
theorem dX5_copies_40 : decode cX5_copies 40 = .ok (.iload 5, 2) := by decide +kernel
theorem dX5_copies_42 : decode cX5_copies 42 = .ok (.iadd, 1) := by decide +kernel
theorem dX5_copies_43 : decode cX5_copies 43 = .ok (.iaload, 1) := by decide +kernel
theorem dX5_copies_44 : decode cX5_copies 44 = .ok (.iastore, 1) := by decide +kernel
theorem dX5_copies_45 : decode cX5_copies 45 = .ok (.iinc 5 1, 3) := by decide +kernel
theorem dX5_copies_48 : decode cX5_copies 48 = .ok (.goto (-37), 3) := by decide +kernel
theorem dX5_copies_51 : decode cX5_copies 51 = .ok (.return_, 1) := by decide +kernel
theorem dX5_addRule_0 : decode cX5_addRule 0 = .ok (.iload_n 1, 1) := by decide +kernel
theorem dX5_addRule_1 : decode cX5_addRule 1 = .ok (.invokestatic 101, 3) := by decide +kernel
theorem dX5_addRule_4 : decode cX5_addRule 4 = .ok (.ifCond .eq 29, 3) := by decide +kernel
theorem dX5_addRule_7 : decode cX5_addRule 7 = .ok (.iload_n 2, 1) := by decide +kernel
theorem dX5_addRule_8 : decode cX5_addRule 8 = .ok (.iconst 0, 1) := by decide +kernel
theorem dX5_addRule_9 : decode cX5_addRule 9 = .ok (.aload_n 0, 1) := by decide +kernel
theorem dX5_addRule_10 : decode cX5_addRule 10 = .ok (.getfield 13, 3) := by decide +kernel
theorem dX5_addRule_13 : decode cX5_addRule 13 = .ok (.bipush 42, 2) := by decide +kernel
theorem dX5_addRule_15 : decode cX5_addRule 15 = .ok (.iload_n 1, 1) := by decide +kernel
theorem dX5_addRule_16 : decode cX5_addRule 16 = .ok (.imul, 1) := by decide +kernel
theorem dX5_addRule_17 : decode cX5_addRule 17 = .ok (.iaload, 1) := by decide +kernel
theorem dX5_addRule_18 : decode cX5_addRule 18 = .ok (.invokestatic 41, 3) := by decide +kernel
theorem dX5_addRule_21 : decode cX5_addRule 21 = .ok (.ifCond .eq 12, 3) := by decide +kernel
theorem dX5_addRule_24 : decode cX5_addRule 24 = .ok (.iload_n 3, 1) := by decide +kernel
theorem dX5_addRule_25 : decode cX5_addRule 25 = .ok (.iconst 0, 1) := by decide +kernel
theorem dX5_addRule_26 : decode cX5_addRule 26 = .ok (.iconst 1, 1) := by decide +kernel
theorem dX5_addRule_27 : decode cX5_addRule 27 = .ok (.invokestatic 41, 3) := by decide +kernel
theorem dX5_addRule_30 : decode cX5_addRule 30 = .ok (.ifCond .ne 5, 3) := by decide +kernel
theorem dX5_addRule_33 : decode cX5_addRule 33 = .ok (.iconst (-1), 1) := by decide +kernel
theorem dX5_addRule_34 : decode cX5_addRule 34 = .ok (.ireturn, 1) := by decide +kernel
theorem dX5_addRule_35 : decode cX5_addRule 35 = .ok (.aload_n 0, 1) := by decide +kernel
theorem dX5_addRule_36 : decode cX5_addRule 36 = .ok (.getfield 13, 3) := by decide +kernel
theorem dX5_addRule_39 : decode cX5_addRule 39 = .ok (.bipush 42, 2) := by decide +kernel
theorem dX5_addRule_41 : decode cX5_addRule 41 = .ok (.iload_n 1, 1) := by decide +kernel
theorem dX5_addRule_42 : decode cX5_addRule 42 = .ok (.imul, 1) := by decide +kernel
theorem dX5_addRule_43 : decode cX5_addRule 43 = .ok (.iaload, 1) := by decide +kernel
theorem dX5_addRule_44 : decode cX5_addRule 44 = .ok (.bipush 8, 2) := by decide +kernel
theorem dX5_addRule_46 : decode cX5_addRule 46 = .ok (.if_icmp .ne 6, 3) := by decide +kernel
theorem dX5_addRule_49 : decode cX5_addRule 49 = .ok (.bipush (-2), 2) := by decide +kernel
theorem dX5_addRule_51 : decode cX5_addRule 51 = .ok (.ireturn, 1) := by decide +kernel
theorem dX5_addRule_52 : decode cX5_addRule 52 = .ok (.aload_n 0, 1) := by decide +kernel
theorem dX5_addRule_53 : decode cX5_addRule 53 = .ok (.invokevirtual 104, 3) := by decide +kernel
theorem dX5_addRule_56 : decode cX5_addRule 56 = .ok (.aload_n 0, 1) := by decide +kernel
theorem dX5_addRule_57 : decode cX5_addRule 57 = .ok (.getfield 13, 3) := by decide +kernel
