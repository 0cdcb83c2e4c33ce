theorem dX0_init_0 : decode cX0_init 0 = .ok (.aload_n 0, 1) := by decide +kernel
theorem dX0_init_1 : decode cX0_init 1 = .ok (.invokespecial 3, 3) := by decide +kernel
theorem dX0_init_4 : decode cX0_init 4 = .ok (.aload_n 0, 1) := by decide +kernel
theorem dX0_init_5 : decode cX0_init 5 = .ok (.iconst 4, 1) := by decide +kernel
theorem dX0_init_6 : decode cX0_init 6 = .ok (.newarray .int, 2) := by decide +kernel
theorem dX0_init_8 : decode cX0_init 8 = .ok (.putfield 9, 3) := by decide +kernel
theorem dX0_init_11 : decode cX0_init 11 = .ok (.aload_n 0, 1) := by decide +kernel
theorem dX0_init_12 : decode cX0_init 12 = .ok (.bipush 108, 2) := by decide +kernel
theorem dX0_init_14 : decode cX0_init 14 = .ok (.newarray .int, 2) := by decide +kernel
theorem dX0_init_16 : decode cX0_init 16 = .ok (.putfield 17, 3) := by decide +kernel
theorem dX0_init_19 : decode cX0_init 19 = .ok (.aload_n 0, 1) := by decide +kernel
theorem dX0_init_20 : decode cX0_init 20 = .ok (.iconst 0, 1) := by decide +kernel
theorem dX0_init_21 : decode cX0_init 21 = .ok (.putfield 20, 3) := by decide +kernel
theorem dX0_init_24 : decode cX0_init 24 = .ok (.return_, 1) := by decide +kernel
theorem dX0_size_0 : decode cX0_size 0 = .ok (.aload_n 0, 1) := by decide +kernel
theorem dX0_size_1 : decode cX0_size 1 = .ok (.getfield 20, 3) := by decide +kernel
theorem dX0_size_4 : decode cX0_size 4 = .ok (.ireturn, 1) := by decide +kernel
theorem dX0_forgetAll_0 : decode cX0_forgetAll 0 = .ok (.aload_n 0, 1) := by decide +kernel
theorem dX0_forgetAll_1 : decode cX0_forgetAll 1 = .ok (.iconst 0, 1) := by decide +kernel
theorem dX0_forgetAll_2 : decode cX0_forgetAll 2 = .ok (.putfield 20, 3) := by decide +kernel
theorem dX0_forgetAll_5 : decode cX0_forgetAll 5 = .ok (.return_, 1) := by decide +kernel
theorem dX0_remember_0 : decode cX0_remember 0 = .ok (.aload_n 0, 1) := by decide +kernel
theorem dX0_remember_1 : decode cX0_remember 1 = .ok (.getfield 20, 3) := by decide +kernel
theorem dX0_remember_4 : decode cX0_remember 4 = .ok (.iconst 4, 1) := by decide +kernel
theorem dX0_remember_5 : decode cX0_remember 5 = .ok (.if_icmp .lt 7, 3) := by decide +kernel
theorem dX0_remember_8 : decode cX0_remember 8 = .ok (.aload_n 0, 1) := by decide +kernel
theorem dX0_remember_9 : decode cX0_remember 9 = .ok (.invokevirtual 24, 3) := by decide +kernel
theorem dX0_remember_12 : decode cX0_remember 12 = .ok (.aload_n 0, 1) := by decide +kernel
theorem dX0_remember_13 : decode cX0_remember 13 = .ok (.getfield 9, 3) := by decide +kernel
theorem dX0_remember_16 : decode cX0_remember 16 = .ok (.aload_n 0, 1) := by decide +kernel
theorem dX0_remember_17 : decode cX0_remember 17 = .ok (.getfield 20, 3) := by decide +kernel
theorem dX0_remember_20 : decode cX0_remember 20 = .ok (.iload_n 1, 1) := by decide +kernel
theorem dX0_remember_21 : decode cX0_remember 21 = .ok (.iastore, 1) := by decide +kernel
theorem dX0_remember_22 : decode cX0_remember 22 = .ok (.aload_n 2, 1) := by decide +kernel
theorem dX0_remember_23 : decode cX0_remember 23 = .ok (.aload_n 0, 1) := by decide +kernel
theorem dX0_remember_24 : decode cX0_remember 24 = .ok (.getfield 17, 3) := by decide +kernel
theorem dX0_remember_27 : decode cX0_remember 27 = .ok (.aload_n 0, 1) := by decide +kernel
theorem dX0_remember_28 : decode cX0_remember 28 = .ok (.getfield 20, 3) := by decide +kernel
theorem dX0_remember_31 : decode cX0_remember 31 = .ok (.bipush 27, 2) := by decide +kernel
theorem dX0_remember_33 : decode cX0_remember 33 = .ok (.imul, 1) := by decide +kernel
theorem dX0_remember_34 : decode cX0_remember 34 = .ok (.invokevirtual 27, 3) := by decide +kernel
theorem dX0_remember_37 : decode cX0_remember 37 = .ok (.aload_n 0, 1) := by decide +kernel
theorem dX0_remember_38 : decode cX0_remember 38 = .ok (.dup, 1) := by decide +kernel
theorem dX0_remember_39 : decode cX0_remember 39 = .ok (.getfield 20, 3) := by decide +kernel
theorem dX0_remember_42 : decode cX0_remember 42 = .ok (.iconst 1, 1) := by decide +kernel
theorem dX0_remember_43 : decode cX0_remember 43 = .ok (.iadd, 1) := by decide +kernel
theorem dX0_remember_44 : decode cX0_remember 44 = .ok (.putfield 20, 3) := by decide +kernel
theorem dX0_remember_47 : decode cX0_remember 47 = .ok (.return_, 1) := by decide +kernel
theorem dX0_latestNumber_0 : decode cX0_latestNumber 0 = .ok (.aload_n 0, 1) := by decide +kernel
theorem dX0_latestNumber_1 : decode cX0_latestNumber 1 = .ok (.getfield 20, 3) := by decide +kernel
theorem dX0_latestNumber_4 : decode cX0_latestNumber 4 = .ok (.ifCond .le 17, 3) := by decide +kernel
theorem dX0_latestNumber_7 : decode cX0_latestNumber 7 = .ok (.aload_n 0, 1) := by decide +kernel
theorem dX0_latestNumber_8 : decode cX0_latestNumber 8 = .ok (.getfield 9, 3) := by decide +kernel
theorem dX0_latestNumber_11 : decode cX0_latestNumber 11 = .ok (.aload_n 0, 1) := by decide +kernel
theorem dX0_latestNumber_12 : decode cX0_latestNumber 12 = .ok (.getfield 20, 3) := by decide +kernel
theorem dX0_latestNumber_15 : decode cX0_latestNumber 15 = .ok (.iconst 1, 1) := by decide +kernel
theorem dX0_latestNumber_16 : decode cX0_latestNumber 16 = .ok (.isub, 1) := by decide +kernel
theorem dX0_latestNumber_17 : decode cX0_latestNumber 17 = .ok (.iaload, 1) := by decide +kernel
theorem dX0_latestNumber_18 : decode cX0_latestNumber 18 = .ok (.goto 4, 3) := by decide +kernel
theorem dX0_latestNumber_21 : decode cX0_latestNumber 21 = .ok (.iconst 0, 1) := by decide +kernel
theorem dX0_latestNumber_22 : decode cX0_latestNumber 22 = .ok (.ireturn, 1) := by decide +kernel
theorem dX0_recallInto_0 : decode cX0_recallInto 0 = .ok (.aload_n 0, 1) := by decide +kernel
theorem dX0_recallInto_1 : decode cX0_recallInto 1 = .ok (.getfield 20, 3) := by decide +kernel
theorem dX0_recallInto_4 : decode cX0_recallInto 4 = .ok (.ifCond .le 28, 3) := by decide +kernel
theorem dX0_recallInto_7 : decode cX0_recallInto 7 = .ok (.aload_n 0, 1) := by decide +kernel
theorem dX0_recallInto_8 : decode cX0_recallInto 8 = .ok (.dup, 1) := by decide +kernel
theorem dX0_recallInto_9 : decode cX0_recallInto 9 = .ok (.getfield 20, 3) := by decide +kernel
theorem dX0_recallInto_12 : decode cX0_recallInto 12 = .ok (.iconst 1, 1) := by decide +kernel
theorem dX0_recallInto_13 : decode cX0_recallInto 13 = .ok (.isub, 1) := by decide +kernel
theorem dX0_recallInto_14 : decode cX0_recallInto 14 = .ok (.putfield 20, 3) := by decide +kernel
theorem dX0_recallInto_17 : decode cX0_recallInto 17 = .ok (.aload_n 1, 1) := by decide +kernel
theorem dX0_recallInto_18 : decode cX0_recallInto 18 = .ok (.aload_n 0, 1) := by decide +kernel
theorem dX0_recallInto_19 : decode cX0_recallInto 19 = .ok (.getfield 17, 3) := by decide +kernel
theorem dX0_recallInto_22 : decode cX0_recallInto 22 = .ok (.aload_n 0, 1) := by decide +kernel
theorem dX0_recallInto_23 : decode cX0_recallInto 23 = .ok (.getfield 20, 3) := by decide +kernel
theorem dX0_recallInto_26 : decode cX0_recallInto 26 = .ok (.bipush 27, 2) := by decide +kernel
theorem dX0_recallInto_28 : decode cX0_recallInto 28 = .ok (.imul, 1) := by decide +kernel
theorem dX0_recallInto_29 : decode cX0_recallInto 29 = .ok (.invokevirtual 31, 3) := by decide +kernel
theorem dX0_recallInto_32 : decode cX0_recallInto 32 = .ok (.return_, 1) := by decide +kernel
theorem dX0_forgetOldest_0 : decode cX0_forgetOldest 0 = .ok (.aload_n 0, 1) := by decide +kernel
theorem dX0_forgetOldest_1 : decode cX0_forgetOldest 1 = .ok (.getfield 9, 3) := by decide +kernel
theorem dX0_forgetOldest_4 : decode cX0_forgetOldest 4 = .ok (.iconst 1, 1) := by decide +kernel
theorem dX0_forgetOldest_5 : decode cX0_forgetOldest 5 = .ok (.aload_n 0, 1) := by decide +kernel
theorem dX0_forgetOldest_6 : decode cX0_forgetOldest 6 = .ok (.getfield 9, 3) := by decide +kernel
theorem dX0_forgetOldest_9 : decode cX0_forgetOldest 9 = .ok (.iconst 0, 1) := by decide +kernel
theorem dX0_forgetOldest_10 : decode cX0_forgetOldest 10 = .ok (.iconst 3, 1) := by decide +kernel
theorem dX0_forgetOldest_11 : decode cX0_forgetOldest 11 = .ok (.invokestatic 34, 3) := by decide +kernel
theorem dX0_forgetOldest_14 : decode cX0_forgetOldest 14 = .ok (.aload_n 0, 1) := by decide +kernel
theorem dX0_forgetOldest_15 : decode cX0_forgetOldest 15 = .ok (.getfield 17, 3) := by decide +kernel
theorem dX0_forgetOldest_18 : decode cX0_forgetOldest 18 = .ok (.bipush 27, 2) := by decide +kernel
theorem dX0_forgetOldest_20 : decode cX0_forgetOldest 20 = .ok (.aload_n 0, 1) := by decide +kernel
theorem dX0_forgetOldest_21 : decode cX0_forgetOldest 21 = .ok (.getfield 17, 3) := by decide +kernel
theorem dX0_forgetOldest_24 : decode cX0_forgetOldest 24 = .ok (.iconst 0, 1) := by decide +kernel
theorem dX0_forgetOldest_25 : decode cX0_forgetOldest 25 = .ok (.bipush 81, 2) := by decide +kernel
theorem dX0_forgetOldest_27 : decode cX0_forgetOldest 27 = .ok (.invokestatic 34, 3) := by decide +kernel
theorem dX0_forgetOldest_30 : decode cX0_forgetOldest 30 = .ok (.aload_n 0, 1) := by decide +kernel
theorem dX0_forgetOldest_31 : decode cX0_forgetOldest 31 = .ok (.iconst 3, 1) := by decide +kernel
theorem dX0_forgetOldest_32 : decode cX0_forgetOldest 32 = .ok (.putfield 20, 3) := by decide +kernel
theorem dX0_forgetOldest_35 : decode cX0_forgetOldest 35 = .ok (.return_, 1) := by decide +kernel
theorem dX1_init_0 : decode cX1_init 0 = .ok (.aload_n 0, 1) := by decide +kernel
theorem dX1_init_1 : decode cX1_init 1 = .ok (.invokespecial 5, 3) := by decide +kernel
theorem dX1_init_4 : decode cX1_init 4 = .ok (.aload_n 0, 1) := by decide +kernel
theorem dX1_init_5 : decode cX1_init 5 = .ok (.bipush 25, 2) := by decide +kernel
theorem dX1_init_7 : decode cX1_init 7 = .ok (.newarray .int, 2) := by decide +kernel
theorem dX1_init_9 : decode cX1_init 9 = .ok (.putfield 11, 3) := by decide +kernel
theorem dX1_init_12 : decode cX1_init 12 = .ok (.aload_n 0, 1) := by decide +kernel
theorem dX1_init_13 : decode cX1_init 13 = .ok (.iconst 0, 1) := by decide +kernel
theorem dX1_init_14 : decode cX1_init 14 = .ok (.putfield 15, 3) := by decide +kernel
theorem dX1_init_17 : decode cX1_init 17 = .ok (.aload_n 0, 1) := by decide +kernel
theorem dX1_init_18 : decode cX1_init 18 = .ok (.iconst 0, 1) := by decide +kernel
theorem dX1_init_19 : decode cX1_init 19 = .ok (.putfield 19, 3) := by decide +kernel
theorem dX1_init_22 : decode cX1_init 22 = .ok (.return_, 1) := by decide +kernel
theorem dX1_size_0 : decode cX1_size 0 = .ok (.aload_n 0, 1) := by decide +kernel
theorem dX1_size_1 : decode cX1_size 1 = .ok (.getfield 15, 3) := by decide +kernel
theorem dX1_size_4 : decode cX1_size 4 = .ok (.ireturn, 1) := by decide +kernel
theorem dX1_algorithm_0 : decode cX1_algorithm 0 = .ok (.aload_n 0, 1) := by decide +kernel
theorem dX1_algorithm_1 : decode cX1_algorithm 1 = .ok (.getfield 19, 3) := by decide +kernel
theorem dX1_algorithm_4 : decode cX1_algorithm 4 = .ok (.ireturn, 1) := by decide +kernel
theorem dX1_use_0 : decode cX1_use 0 = .ok (.aload_n 0, 1) := by decide +kernel
theorem dX1_use_1 : decode cX1_use 1 = .ok (.iload_n 1, 1) := by decide +kernel
theorem dX1_use_2 : decode cX1_use 2 = .ok (.putfield 19, 3) := by decide +kernel
theorem dX1_use_5 : decode cX1_use 5 = .ok (.return_, 1) := by decide +kernel
theorem dX1_empty_0 : decode cX1_empty 0 = .ok (.aload_n 0, 1) := by decide +kernel
theorem dX1_empty_1 : decode cX1_empty 1 = .ok (.getfield 11, 3) := by decide +kernel
theorem dX1_empty_4 : decode cX1_empty 4 = .ok (.iconst 0, 1) := by decide +kernel
theorem dX1_empty_5 : decode cX1_empty 5 = .ok (.invokestatic 22, 3) := by decide +kernel
theorem dX1_empty_8 : decode cX1_empty 8 = .ok (.aload_n 0, 1) := by decide +kernel
theorem dX1_empty_9 : decode cX1_empty 9 = .ok (.iconst 0, 1) := by decide +kernel
theorem dX1_empty_10 : decode cX1_empty 10 = .ok (.putfield 15, 3) := by decide +kernel
theorem dX1_empty_13 : decode cX1_empty 13 = .ok (.aload_n 0, 1) := by decide +kernel
theorem dX1_empty_14 : decode cX1_empty 14 = .ok (.iconst 0, 1) := by decide +kernel
theorem dX1_empty_15 : decode cX1_empty 15 = .ok (.putfield 19, 3) := by decide +kernel
theorem dX1_empty_18 : decode cX1_empty 18 = .ok (.return_, 1) := by decide +kernel
theorem dX1_copyFrom_0 : decode cX1_copyFrom 0 = .ok (.aload_n 1, 1) := by decide +kernel
theorem dX1_copyFrom_1 : decode cX1_copyFrom 1 = .ok (.getfield 11, 3) := by decide +kernel
theorem dX1_copyFrom_4 : decode cX1_copyFrom 4 = .ok (.iconst 0, 1) := by decide +kernel
theorem dX1_copyFrom_5 : decode cX1_copyFrom 5 = .ok (.aload_n 0, 1) := by decide +kernel
theorem dX1_copyFrom_6 : decode cX1_copyFrom 6 = .ok (.getfield 11, 3) := by decide +kernel
theorem dX1_copyFrom_9 : decode cX1_copyFrom 9 = .ok (.iconst 0, 1) := by decide +kernel
theorem dX1_copyFrom_10 : decode cX1_copyFrom 10 = .ok (.bipush 25, 2) := by decide +kernel
theorem dX1_copyFrom_12 : decode cX1_copyFrom 12 = .ok (.invokestatic 28, 3) := by decide +kernel
theorem dX1_copyFrom_15 : decode cX1_copyFrom 15 = .ok (.aload_n 0, 1) := by decide +kernel
theorem dX1_copyFrom_16 : decode cX1_copyFrom 16 = .ok (.aload_n 1, 1) := by decide +kernel
theorem dX1_copyFrom_17 : decode cX1_copyFrom 17 = .ok (.getfield 15, 3) := by decide +kernel
theorem dX1_copyFrom_20 : decode cX1_copyFrom 20 = .ok (.putfield 15, 3) := by decide +kernel
theorem dX1_copyFrom_23 : decode cX1_copyFrom 23 = .ok (.aload_n 0, 1) := by decide +kernel
theorem dX1_copyFrom_24 : decode cX1_copyFrom 24 = .ok (.aload_n 1, 1) := by decide +kernel
theorem dX1_copyFrom_25 : decode cX1_copyFrom 25 = .ok (.getfield 19, 3) := by decide +kernel
theorem dX1_copyFrom_28 : decode cX1_copyFrom 28 = .ok (.putfield 19, 3) := by decide +kernel
theorem dX1_copyFrom_31 : decode cX1_copyFrom 31 = .ok (.return_, 1) := by decide +kernel
theorem dX1_saveInto_0 : decode cX1_saveInto 0 = .ok (.iload_n 2, 1) := by decide +kernel
theorem dX1_saveInto_1 : decode cX1_saveInto 1 = .ok (.ifCond .lt 12, 3) := by decide +kernel
theorem dX1_saveInto_4 : decode cX1_saveInto 4 = .ok (.iload_n 2, 1) := by decide +kernel
theorem dX1_saveInto_5 : decode cX1_saveInto 5 = .ok (.aload_n 1, 1) := by decide +kernel
theorem dX1_saveInto_6 : decode cX1_saveInto 6 = .ok (.arraylength, 1) := by decide +kernel
theorem dX1_saveInto_7 : decode cX1_saveInto 7 = .ok (.bipush 27, 2) := by decide +kernel
theorem dX1_saveInto_9 : decode cX1_saveInto 9 = .ok (.isub, 1) := by decide +kernel
theorem dX1_saveInto_10 : decode cX1_saveInto 10 = .ok (.if_icmp .le 4, 3) := by decide +kernel
theorem dX1_saveInto_13 : decode cX1_saveInto 13 = .ok (.return_, 1) := by decide +kernel
theorem dX1_saveInto_14 : decode cX1_saveInto 14 = .ok (.aload_n 0, 1) := by decide +kernel
theorem dX1_saveInto_15 : decode cX1_saveInto 15 = .ok (.getfield 11, 3) := by decide +kernel
theorem dX1_saveInto_18 : decode cX1_saveInto 18 = .ok (.iconst 0, 1) := by decide +kernel
theorem dX1_saveInto_19 : decode cX1_saveInto 19 = .ok (.aload_n 1, 1) := by decide +kernel
theorem dX1_saveInto_20 : decode cX1_saveInto 20 = .ok (.iload_n 2, 1) := by decide +kernel
theorem dX1_saveInto_21 : decode cX1_saveInto 21 = .ok (.bipush 25, 2) := by decide +kernel
theorem dX1_saveInto_23 : decode cX1_saveInto 23 = .ok (.invokestatic 28, 3) := by decide +kernel
theorem dX1_saveInto_26 : decode cX1_saveInto 26 = .ok (.aload_n 1, 1) := by decide +kernel
theorem dX1_saveInto_27 : decode cX1_saveInto 27 = .ok (.iload_n 2, 1) := by decide +kernel
theorem dX1_saveInto_28 : decode cX1_saveInto 28 = .ok (.bipush 25, 2) := by decide +kernel
theorem dX1_saveInto_30 : decode cX1_saveInto 30 = .ok (.iadd, 1) := by decide +kernel
theorem dX1_saveInto_31 : decode cX1_saveInto 31 = .ok (.aload_n 0, 1) := by decide +kernel
theorem dX1_saveInto_32 : decode cX1_saveInto 32 = .ok (.getfield 15, 3) := by decide +kernel
theorem dX1_saveInto_35 : decode cX1_saveInto 35 = .ok (.iastore, 1) := by decide +kernel
theorem dX1_saveInto_36 : decode cX1_saveInto 36 = .ok (.aload_n 1, 1) := by decide +kernel
theorem dX1_saveInto_37 : decode cX1_saveInto 37 = .ok (.iload_n 2, 1) := by decide +kernel
theorem dX1_saveInto_38 : decode cX1_saveInto 38 = .ok (.bipush 25, 2) := by decide +kernel
theorem dX1_saveInto_40 : decode cX1_saveInto 40 = .ok (.iadd, 1) := by decide +kernel
theorem dX1_saveInto_41 : decode cX1_saveInto 41 = .ok (.iconst 1, 1) := by decide +kernel
theorem dX1_saveInto_42 : decode cX1_saveInto 42 = .ok (.iadd, 1) := by decide +kernel
theorem dX1_saveInto_43 : decode cX1_saveInto 43 = .ok (.aload_n 0, 1) := by decide +kernel
theorem dX1_saveInto_44 : decode cX1_saveInto 44 = .ok (.getfield 19, 3) := by decide +kernel
theorem dX1_saveInto_47 : decode cX1_saveInto 47 = .ok (.iastore, 1) := by decide +kernel
theorem dX1_saveInto_48 : decode cX1_saveInto 48 = .ok (.return_, 1) := by decide +kernel
theorem dX1_restoreFrom_0 : decode cX1_restoreFrom 0 = .ok (.iload_n 2, 1) := by decide +kernel
theorem dX1_restoreFrom_1 : decode cX1_restoreFrom 1 = .ok (.ifCond .lt 12, 3) := by decide +kernel
theorem dX1_restoreFrom_4 : decode cX1_restoreFrom 4 = .ok (.iload_n 2, 1) := by decide +kernel
theorem dX1_restoreFrom_5 : decode cX1_restoreFrom 5 = .ok (.aload_n 1, 1) := by decide +kernel
theorem dX1_restoreFrom_6 : decode cX1_restoreFrom 6 = .ok (.arraylength, 1) := by decide +kernel
theorem dX1_restoreFrom_7 : decode cX1_restoreFrom 7 = .ok (.bipush 27, 2) := by decide +kernel
theorem dX1_restoreFrom_9 : decode cX1_restoreFrom 9 = .ok (.isub, 1) := by decide +kernel
theorem dX1_restoreFrom_10 : decode cX1_restoreFrom 10 = .ok (.if_icmp .le 4, 3) := by decide +kernel
theorem dX1_restoreFrom_13 : decode cX1_restoreFrom 13 = .ok (.return_, 1) := by decide +kernel
theorem dX1_restoreFrom_14 : decode cX1_restoreFrom 14 = .ok (.aload_n 1, 1) := by decide +kernel
theorem dX1_restoreFrom_15 : decode cX1_restoreFrom 15 = .ok (.iload_n 2, 1) := by decide +kernel
theorem dX1_restoreFrom_16 : decode cX1_restoreFrom 16 = .ok (.aload_n 0, 1) := by decide +kernel
theorem dX1_restoreFrom_17 : decode cX1_restoreFrom 17 = .ok (.getfield 11, 3) := by decide +kernel
theorem dX1_restoreFrom_20 : decode cX1_restoreFrom 20 = .ok (.iconst 0, 1) := by decide +kernel
theorem dX1_restoreFrom_21 : decode cX1_restoreFrom 21 = .ok (.bipush 25, 2) := by decide +kernel
theorem dX1_restoreFrom_23 : decode cX1_restoreFrom 23 = .ok (.invokestatic 28, 3) := by decide +kernel
theorem dX1_restoreFrom_26 : decode cX1_restoreFrom 26 = .ok (.aload_n 0, 1) := by decide +kernel
theorem dX1_restoreFrom_27 : decode cX1_restoreFrom 27 = .ok (.aload_n 1, 1) := by decide +kernel
theorem dX1_restoreFrom_28 : decode cX1_restoreFrom 28 = .ok (.iload_n 2, 1) := by decide +kernel
theorem dX1_restoreFrom_29 : decode cX1_restoreFrom 29 = .ok (.bipush 25, 2) := by decide +kernel
theorem dX1_restoreFrom_31 : decode cX1_restoreFrom 31 = .ok (.iadd, 1) := by decide +kernel
theorem dX1_restoreFrom_32 : decode cX1_restoreFrom 32 = .ok (.iaload, 1) := by decide +kernel
theorem dX1_restoreFrom_33 : decode cX1_restoreFrom 33 = .ok (.putfield 15, 3) := by decide +kernel
theorem dX1_restoreFrom_36 : decode cX1_restoreFrom 36 = .ok (.aload_n 0, 1) := by decide +kernel
theorem dX1_restoreFrom_37 : decode cX1_restoreFrom 37 = .ok (.aload_n 1, 1) := by decide +kernel
theorem dX1_restoreFrom_38 : decode cX1_restoreFrom 38 = .ok (.iload_n 2, 1) := by decide +kernel
theorem dX1_restoreFrom_39 : decode cX1_restoreFrom 39 = .ok (.bipush 25, 2) := by decide +kernel
theorem dX1_restoreFrom_41 : decode cX1_restoreFrom 41 = .ok (.iadd, 1) := by decide +kernel
theorem dX1_restoreFrom_42 : decode cX1_restoreFrom 42 = .ok (.iconst 1, 1) := by decide +kernel
theorem dX1_restoreFrom_43 : decode cX1_restoreFrom 43 = .ok (.iadd, 1) := by decide +kernel
theorem dX1_restoreFrom_44 : decode cX1_restoreFrom 44 = .ok (.iaload, 1) := by decide +kernel
theorem dX1_restoreFrom_45 : decode cX1_restoreFrom 45 = .ok (.putfield 19, 3) := by decide +kernel
theorem dX1_restoreFrom_48 : decode cX1_restoreFrom 48 = .ok (.return_, 1) := by decide +kernel
theorem dX1_insertRule_0 : decode cX1_insertRule 0 = .ok (.iconst 0, 1) := by decide +kernel
theorem dX1_insertRule_1 : decode cX1_insertRule 1 = .ok (.istore_n 3, 1) := by decide +kernel
theorem dX1_insertRule_2 : decode cX1_insertRule 2 = .ok (.iload_n 3, 1) := by decide +kernel
theorem dX1_insertRule_3 : decode cX1_insertRule 3 = .ok (.bipush 24, 2) := by decide +kernel
theorem dX1_insertRule_5 : decode cX1_insertRule 5 = .ok (.if_icmp .ge 26, 3) := by decide +kernel
theorem dX1_insertRule_8 : decode cX1_insertRule 8 = .ok (.aload_n 0, 1) := by decide +kernel
theorem dX1_insertRule_9 : decode cX1_insertRule 9 = .ok (.getfield 11, 3) := by decide +kernel
theorem dX1_insertRule_12 : decode cX1_insertRule 12 = .ok (.iload_n 3, 1) := by decide +kernel
theorem dX1_insertRule_13 : decode cX1_insertRule 13 = .ok (.aload_n 0, 1) := by decide +kernel
theorem dX1_insertRule_14 : decode cX1_insertRule 14 = .ok (.getfield 11, 3) := by decide +kernel
theorem dX1_insertRule_17 : decode cX1_insertRule 17 = .ok (.iload_n 3, 1) := by decide +kernel
theorem dX1_insertRule_18 : decode cX1_insertRule 18 = .ok (.iaload, 1) := by decide +kernel
theorem dX1_insertRule_19 : decode cX1_insertRule 19 = .ok (.iload_n 1, 1) := by decide +kernel
theorem dX1_insertRule_20 : decode cX1_insertRule 20 = .ok (.iconst 1, 1) := by decide +kernel
theorem dX1_insertRule_21 : decode cX1_insertRule 21 = .ok (.invokestatic 34, 3) := by decide +kernel
theorem dX1_insertRule_24 : decode cX1_insertRule 24 = .ok (.iastore, 1) := by decide +kernel
theorem dX1_insertRule_25 : decode cX1_insertRule 25 = .ok (.iinc 3 1, 3) := by decide +kernel
theorem dX1_insertRule_28 : decode cX1_insertRule 28 = .ok (.goto (-26), 3) := by decide +kernel
theorem dX1_insertRule_31 : decode cX1_insertRule 31 = .ok (.aload_n 0, 1) := by decide +kernel
theorem dX1_insertRule_32 : decode cX1_insertRule 32 = .ok (.getfield 11, 3) := by decide +kernel
theorem dX1_insertRule_35 : decode cX1_insertRule 35 = .ok (.bipush 24, 2) := by decide +kernel
theorem dX1_insertRule_37 : decode cX1_insertRule 37 = .ok (.aload_n 0, 1) := by decide +kernel
theorem dX1_insertRule_38 : decode cX1_insertRule 38 = .ok (.getfield 11, 3) := by decide +kernel
theorem dX1_insertRule_41 : decode cX1_insertRule 41 = .ok (.bipush 24, 2) := by decide +kernel
theorem dX1_insertRule_43 : decode cX1_insertRule 43 = .ok (.iaload, 1) := by decide +kernel
theorem dX1_insertRule_44 : decode cX1_insertRule 44 = .ok (.iload_n 1, 1) := by decide +kernel
theorem dX1_insertRule_45 : decode cX1_insertRule 45 = .ok (.iload_n 2, 1) := by decide +kernel
theorem dX1_insertRule_46 : decode cX1_insertRule 46 = .ok (.iconst 1, 1) := by decide +kernel
theorem dX1_insertRule_47 : decode cX1_insertRule 47 = .ok (.if_icmp .ne 7, 3) := by decide +kernel
theorem dX1_insertRule_50 : decode cX1_insertRule 50 = .ok (.iconst 1, 1) := by decide +kernel
theorem dX1_insertRule_51 : decode cX1_insertRule 51 = .ok (.goto 4, 3) := by decide +kernel
theorem dX1_insertRule_54 : decode cX1_insertRule 54 = .ok (.iconst 0, 1) := by decide +kernel
theorem dX1_insertRule_55 : decode cX1_insertRule 55 = .ok (.invokestatic 34, 3) := by decide +kernel
theorem dX1_insertRule_58 : decode cX1_insertRule 58 = .ok (.iastore, 1) := by decide +kernel
theorem dX1_insertRule_59 : decode cX1_insertRule 59 = .ok (.aload_n 0, 1) := by decide +kernel
theorem dX1_insertRule_60 : decode cX1_insertRule 60 = .ok (.dup, 1) := by decide +kernel
theorem dX1_insertRule_61 : decode cX1_insertRule 61 = .ok (.getfield 15, 3) := by decide +kernel
theorem dX1_insertRule_64 : decode cX1_insertRule 64 = .ok (.iconst 1, 1) := by decide +kernel
theorem dX1_insertRule_65 : decode cX1_insertRule 65 = .ok (.iadd, 1) := by decide +kernel
theorem dX1_insertRule_66 : decode cX1_insertRule 66 = .ok (.putfield 15, 3) := by decide +kernel
theorem dX1_insertRule_69 : decode cX1_insertRule 69 = .ok (.return_, 1) := by decide +kernel
theorem dX1_dropRule_0 : decode cX1_dropRule 0 = .ok (.iconst 0, 1) := by decide +kernel
theorem dX1_dropRule_1 : decode cX1_dropRule 1 = .ok (.istore_n 2, 1) := by decide +kernel
theorem dX1_dropRule_2 : decode cX1_dropRule 2 = .ok (.iload_n 2, 1) := by decide +kernel
theorem dX1_dropRule_3 : decode cX1_dropRule 3 = .ok (.bipush 25, 2) := by decide +kernel
theorem dX1_dropRule_5 : decode cX1_dropRule 5 = .ok (.if_icmp .ge 25, 3) := by decide +kernel
theorem dX1_dropRule_8 : decode cX1_dropRule 8 = .ok (.aload_n 0, 1) := by decide +kernel
theorem dX1_dropRule_9 : decode cX1_dropRule 9 = .ok (.getfield 11, 3) := by decide +kernel
theorem dX1_dropRule_12 : decode cX1_dropRule 12 = .ok (.iload_n 2, 1) := by decide +kernel
theorem dX1_dropRule_13 : decode cX1_dropRule 13 = .ok (.aload_n 0, 1) := by decide +kernel
theorem dX1_dropRule_14 : decode cX1_dropRule 14 = .ok (.getfield 11, 3) := by decide +kernel
theorem dX1_dropRule_17 : decode cX1_dropRule 17 = .ok (.iload_n 2, 1) := by decide +kernel
theorem dX1_dropRule_18 : decode cX1_dropRule 18 = .ok (.iaload, 1) := by decide +kernel
theorem dX1_dropRule_19 : decode cX1_dropRule 19 = .ok (.iload_n 1, 1) := by decide +kernel
theorem dX1_dropRule_20 : decode cX1_dropRule 20 = .ok (.invokestatic 38, 3) := by decide +kernel
theorem dX1_dropRule_23 : decode cX1_dropRule 23 = .ok (.iastore, 1) := by decide +kernel
theorem dX1_dropRule_24 : decode cX1_dropRule 24 = .ok (.iinc 2 1, 3) := by decide +kernel
theorem dX1_dropRule_27 : decode cX1_dropRule 27 = .ok (.goto (-25), 3) := by decide +kernel
theorem dX1_dropRule_30 : decode cX1_dropRule 30 = .ok (.aload_n 0, 1) := by decide +kernel
theorem dX1_dropRule_31 : decode cX1_dropRule 31 = .ok (.dup, 1) := by decide +kernel
theorem dX1_dropRule_32 : decode cX1_dropRule 32 = .ok (.getfield 15, 3) := by decide +kernel
theorem dX1_dropRule_35 : decode cX1_dropRule 35 = .ok (.iconst 1, 1) := by decide +kernel
theorem dX1_dropRule_36 : decode cX1_dropRule 36 = .ok (.isub, 1) := by decide +kernel
theorem dX1_dropRule_37 : decode cX1_dropRule 37 = .ok (.putfield 15, 3) := by decide +kernel
theorem dX1_dropRule_40 : decode cX1_dropRule 40 = .ok (.return_, 1) := by decide +kernel
theorem dX1_shiftRule_0 : decode cX1_shiftRule 0 = .ok (.iconst 0, 1) := by decide +kernel
theorem dX1_shiftRule_1 : decode cX1_shiftRule 1 = .ok (.istore_n 3, 1) := by decide +kernel
theorem dX1_shiftRule_2 : decode cX1_shiftRule 2 = .ok (.iload_n 3, 1) := by decide +kernel
theorem dX1_shiftRule_3 : decode cX1_shiftRule 3 = .ok (.bipush 25, 2) := by decide +kernel
theorem dX1_shiftRule_5 : decode cX1_shiftRule 5 = .ok (.if_icmp .ge 43, 3) := by decide +kernel
theorem dX1_shiftRule_8 : decode cX1_shiftRule 8 = .ok (.aload_n 0, 1) := by decide +kernel
theorem dX1_shiftRule_9 : decode cX1_shiftRule 9 = .ok (.getfield 11, 3) := by decide +kernel
theorem dX1_shiftRule_12 : decode cX1_shiftRule 12 = .ok (.iload_n 3, 1) := by decide +kernel
theorem dX1_shiftRule_13 : decode cX1_shiftRule 13 = .ok (.iaload, 1) := by decide +kernel
theorem dX1_shiftRule_14 : decode cX1_shiftRule 14 = .ok (.iload_n 1, 1) := by decide +kernel
theorem dX1_shiftRule_15 : decode cX1_shiftRule 15 = .ok (.ishr, 1) := by decide +kernel
theorem dX1_shiftRule_16 : decode cX1_shiftRule 16 = .ok (.iconst 1, 1) := by decide +kernel
theorem dX1_shiftRule_17 : decode cX1_shiftRule 17 = .ok (.iand, 1) := by decide +kernel
theorem dX1_shiftRule_18 : decode cX1_shiftRule 18 = .ok (.istore 4, 2) := by decide +kernel
theorem dX1_shiftRule_20 : decode cX1_shiftRule 20 = .ok (.aload_n 0, 1) := by decide +kernel
theorem dX1_shiftRule_21 : decode cX1_shiftRule 21 = .ok (.getfield 11, 3) := by decide +kernel
theorem dX1_shiftRule_24 : decode cX1_shiftRule 24 = .ok (.iload_n 3, 1) := by decide +kernel
theorem dX1_shiftRule_25 : decode cX1_shiftRule 25 = .ok (.aload_n 0, 1) := by decide +kernel
theorem dX1_shiftRule_26 : decode cX1_shiftRule 26 = .ok (.getfield 11, 3) := by decide +kernel
theorem dX1_shiftRule_29 : decode cX1_shiftRule 29 = .ok (.iload_n 3, 1) := by decide +kernel
theorem dX1_shiftRule_30 : decode cX1_shiftRule 30 = .ok (.iaload, 1) := by decide +kernel
theorem dX1_shiftRule_31 : decode cX1_shiftRule 31 = .ok (.iload_n 1, 1) := by decide +kernel
theorem dX1_shiftRule_32 : decode cX1_shiftRule 32 = .ok (.invokestatic 38, 3) := by decide +kernel
theorem dX1_shiftRule_35 : decode cX1_shiftRule 35 = .ok (.iload_n 2, 1) := by decide +kernel
theorem dX1_shiftRule_36 : decode cX1_shiftRule 36 = .ok (.iload 4, 2) := by decide +kernel
theorem dX1_shiftRule_38 : decode cX1_shiftRule 38 = .ok (.invokestatic 34, 3) := by decide +kernel
theorem dX1_shiftRule_41 : decode cX1_shiftRule 41 = .ok (.iastore, 1) := by decide +kernel
theorem dX1_shiftRule_42 : decode cX1_shiftRule 42 = .ok (.iinc 3 1, 3) := by decide +kernel
theorem dX1_shiftRule_45 : decode cX1_shiftRule 45 = .ok (.goto (-43), 3) := by decide +kernel
theorem dX1_shiftRule_48 : decode cX1_shiftRule 48 = .ok (.return_, 1) := by decide +kernel
theorem dX1_restrict_0 : decode cX1_restrict 0 = .ok (.getstatic 42, 3) := by decide +kernel
theorem dX1_restrict_3 : decode cX1_restrict 3 = .ok (.iload_n 2, 1) := by decide +kernel
theorem dX1_restrict_4 : decode cX1_restrict 4 = .ok (.iaload, 1) := by decide +kernel
theorem dX1_restrict_5 : decode cX1_restrict 5 = .ok (.istore 4, 2) := by decide +kernel
theorem dX1_restrict_7 : decode cX1_restrict 7 = .ok (.iconst 0, 1) := by decide +kernel
theorem dX1_restrict_8 : decode cX1_restrict 8 = .ok (.istore 5, 2) := by decide +kernel
theorem dX1_restrict_10 : decode cX1_restrict 10 = .ok (.iload 5, 2) := by decide +kernel
theorem dX1_restrict_12 : decode cX1_restrict 12 = .ok (.getstatic 45, 3) := by decide +kernel
theorem dX1_restrict_15 : decode cX1_restrict 15 = .ok (.iload_n 2, 1) := by decide +kernel
theorem dX1_restrict_16 : decode cX1_restrict 16 = .ok (.iaload, 1) := by decide +kernel
theorem dX1_restrict_17 : decode cX1_restrict 17 = .ok (.if_icmp .ge 48, 3) := by decide +kernel
theorem dX1_restrict_20 : decode cX1_restrict 20 = .ok (.iload_n 3, 1) := by decide +kernel
theorem dX1_restrict_21 : decode cX1_restrict 21 = .ok (.iload 5, 2) := by decide +kernel
theorem dX1_restrict_23 : decode cX1_restrict 23 = .ok (.ishr, 1) := by decide +kernel
theorem dX1_restrict_24 : decode cX1_restrict 24 = .ok (.iconst 1, 1) := by decide +kernel
theorem dX1_restrict_25 : decode cX1_restrict 25 = .ok (.iand, 1) := by decide +kernel
theorem dX1_restrict_26 : decode cX1_restrict 26 = .ok (.istore 6, 2) := by decide +kernel
theorem dX1_restrict_28 : decode cX1_restrict 28 = .ok (.aload_n 0, 1) := by decide +kernel
theorem dX1_restrict_29 : decode cX1_restrict 29 = .ok (.getfield 11, 3) := by decide +kernel
theorem dX1_restrict_32 : decode cX1_restrict 32 = .ok (.iload 4, 2) := by decide +kernel
theorem dX1_restrict_34 : decode cX1_restrict 34 = .ok (.iload 5, 2) := by decide +kernel
theorem dX1_restrict_36 : decode cX1_restrict 36 = .ok (.iadd, 1) := by decide +kernel
theorem dX1_restrict_37 : decode cX1_restrict 37 = .ok (.aload_n 0, 1) := by decide +kernel
theorem dX1_restrict_38 : decode cX1_restrict 38 = .ok (.getfield 11, 3) := by decide +kernel
theorem dX1_restrict_41 : decode cX1_restrict 41 = .ok (.iload 4, 2) := by decide +kernel
theorem dX1_restrict_43 : decode cX1_restrict 43 = .ok (.iload 5, 2) := by decide +kernel
theorem dX1_restrict_45 : decode cX1_restrict 45 = .ok (.iadd, 1) := by decide +kernel
theorem dX1_restrict_46 : decode cX1_restrict 46 = .ok (.iaload, 1) := by decide +kernel
theorem dX1_restrict_47 : decode cX1_restrict 47 = .ok (.iconst 1, 1) := by decide +kernel
theorem dX1_restrict_48 : decode cX1_restrict 48 = .ok (.iload_n 1, 1) := by decide +kernel
theorem dX1_restrict_49 : decode cX1_restrict 49 = .ok (.ishl, 1) := by decide +kernel
theorem dX1_restrict_50 : decode cX1_restrict 50 = .ok (.iconst (-1), 1) := by decide +kernel
theorem dX1_restrict_51 : decode cX1_restrict 51 = .ok (.ixor, 1) := by decide +kernel
theorem dX1_restrict_52 : decode cX1_restrict 52 = .ok (.iand, 1) := by decide +kernel
theorem dX1_restrict_53 : decode cX1_restrict 53 = .ok (.iload 6, 2) := by decide +kernel
theorem dX1_restrict_55 : decode cX1_restrict 55 = .ok (.iload_n 1, 1) := by decide +kernel
theorem dX1_restrict_56 : decode cX1_restrict 56 = .ok (.ishl, 1) := by decide +kernel
theorem dX1_restrict_57 : decode cX1_restrict 57 = .ok (.ior, 1) := by decide +kernel
theorem dX1_restrict_58 : decode cX1_restrict 58 = .ok (.iastore, 1) := by decide +kernel
theorem dX1_restrict_59 : decode cX1_restrict 59 = .ok (.iinc 5 1, 3) := by decide +kernel
theorem dX1_restrict_62 : decode cX1_restrict 62 = .ok (.goto (-52), 3) := by decide +kernel
theorem dX1_restrict_65 : decode cX1_restrict 65 = .ok (.return_, 1) := by decide +kernel
theorem dX1_valuesAt_0 : decode cX1_valuesAt 0 = .ok (.getstatic 42, 3) := by decide +kernel
theorem dX1_valuesAt_3 : decode cX1_valuesAt 3 = .ok (.iload_n 2, 1) := by decide +kernel
theorem dX1_valuesAt_4 : decode cX1_valuesAt 4 = .ok (.iaload, 1) := by decide +kernel
theorem dX1_valuesAt_5 : decode cX1_valuesAt 5 = .ok (.istore_n 3, 1) := by decide +kernel
theorem dX1_valuesAt_6 : decode cX1_valuesAt 6 = .ok (.iconst 0, 1) := by decide +kernel
theorem dX1_valuesAt_7 : decode cX1_valuesAt 7 = .ok (.istore 4, 2) := by decide +kernel
theorem dX1_valuesAt_9 : decode cX1_valuesAt 9 = .ok (.iconst 0, 1) := by decide +kernel
theorem dX1_valuesAt_10 : decode cX1_valuesAt 10 = .ok (.istore 5, 2) := by decide +kernel
theorem dX1_valuesAt_12 : decode cX1_valuesAt 12 = .ok (.iload 5, 2) := by decide +kernel
theorem dX1_valuesAt_14 : decode cX1_valuesAt 14 = .ok (.getstatic 45, 3) := by decide +kernel
theorem dX1_valuesAt_17 : decode cX1_valuesAt 17 = .ok (.iload_n 2, 1) := by decide +kernel
theorem dX1_valuesAt_18 : decode cX1_valuesAt 18 = .ok (.iaload, 1) := by decide +kernel
theorem dX1_valuesAt_19 : decode cX1_valuesAt 19 = .ok (.if_icmp .ge 30, 3) := by decide +kernel
theorem dX1_valuesAt_22 : decode cX1_valuesAt 22 = .ok (.iload 4, 2) := by decide +kernel
theorem dX1_valuesAt_24 : decode cX1_valuesAt 24 = .ok (.aload_n 0, 1) := by decide +kernel
theorem dX1_valuesAt_25 : decode cX1_valuesAt 25 = .ok (.getfield 11, 3) := by decide +kernel
theorem dX1_valuesAt_28 : decode cX1_valuesAt 28 = .ok (.iload_n 3, 1) := by decide +kernel
theorem dX1_valuesAt_29 : decode cX1_valuesAt 29 = .ok (.iload 5, 2) := by decide +kernel
theorem dX1_valuesAt_31 : decode cX1_valuesAt 31 = .ok (.iadd, 1) := by decide +kernel
theorem dX1_valuesAt_32 : decode cX1_valuesAt 32 = .ok (.iaload, 1) := by decide +kernel
theorem dX1_valuesAt_33 : decode cX1_valuesAt 33 = .ok (.iload_n 1, 1) := by decide +kernel
theorem dX1_valuesAt_34 : decode cX1_valuesAt 34 = .ok (.ishr, 1) := by decide +kernel
theorem dX1_valuesAt_35 : decode cX1_valuesAt 35 = .ok (.iconst 1, 1) := by decide +kernel
theorem dX1_valuesAt_36 : decode cX1_valuesAt 36 = .ok (.iand, 1) := by decide +kernel
theorem dX1_valuesAt_37 : decode cX1_valuesAt 37 = .ok (.iload 5, 2) := by decide +kernel
theorem dX1_valuesAt_39 : decode cX1_valuesAt 39 = .ok (.ishl, 1) := by decide +kernel
theorem dX1_valuesAt_40 : decode cX1_valuesAt 40 = .ok (.ior, 1) := by decide +kernel
theorem dX1_valuesAt_41 : decode cX1_valuesAt 41 = .ok (.istore 4, 2) := by decide +kernel
theorem dX1_valuesAt_43 : decode cX1_valuesAt 43 = .ok (.iinc 5 1, 3) := by decide +kernel
theorem dX1_valuesAt_46 : decode cX1_valuesAt 46 = .ok (.goto (-34), 3) := by decide +kernel
theorem dX1_valuesAt_49 : decode cX1_valuesAt 49 = .ok (.iload 4, 2) := by decide +kernel
theorem dX1_valuesAt_51 : decode cX1_valuesAt 51 = .ok (.ireturn, 1) := by decide +kernel
theorem dX1_turnEffect_0 : decode cX1_turnEffect 0 = .ok (.aload_n 0, 1) := by decide +kernel
theorem dX1_turnEffect_1 : decode cX1_turnEffect 1 = .ok (.getfield 11, 3) := by decide +kernel
theorem dX1_turnEffect_4 : decode cX1_turnEffect 4 = .ok (.bipush 24, 2) := by decide +kernel
theorem dX1_turnEffect_6 : decode cX1_turnEffect 6 = .ok (.dup2, 1) := by decide +kernel
theorem dX1_turnEffect_7 : decode cX1_turnEffect 7 = .ok (.iaload, 1) := by decide +kernel
theorem dX1_turnEffect_8 : decode cX1_turnEffect 8 = .ok (.iconst 1, 1) := by decide +kernel
theorem dX1_turnEffect_9 : decode cX1_turnEffect 9 = .ok (.iload_n 1, 1) := by decide +kernel
theorem dX1_turnEffect_10 : decode cX1_turnEffect 10 = .ok (.ishl, 1) := by decide +kernel
theorem dX1_turnEffect_11 : decode cX1_turnEffect 11 = .ok (.ixor, 1) := by decide +kernel
theorem dX1_turnEffect_12 : decode cX1_turnEffect 12 = .ok (.iastore, 1) := by decide +kernel
theorem dX1_turnEffect_13 : decode cX1_turnEffect 13 = .ok (.return_, 1) := by decide +kernel
theorem dX1_effectAt_0 : decode cX1_effectAt 0 = .ok (.aload_n 0, 1) := by decide +kernel
theorem dX1_effectAt_1 : decode cX1_effectAt 1 = .ok (.getfield 11, 3) := by decide +kernel
theorem dX1_effectAt_4 : decode cX1_effectAt 4 = .ok (.bipush 24, 2) := by decide +kernel
theorem dX1_effectAt_6 : decode cX1_effectAt 6 = .ok (.iaload, 1) := by decide +kernel
theorem dX1_effectAt_7 : decode cX1_effectAt 7 = .ok (.iload_n 1, 1) := by decide +kernel
theorem dX1_effectAt_8 : decode cX1_effectAt 8 = .ok (.ishr, 1) := by decide +kernel
theorem dX1_effectAt_9 : decode cX1_effectAt 9 = .ok (.iconst 1, 1) := by decide +kernel
theorem dX1_effectAt_10 : decode cX1_effectAt 10 = .ok (.iand, 1) := by decide +kernel
theorem dX1_effectAt_11 : decode cX1_effectAt 11 = .ok (.ifCond .eq 7, 3) := by decide +kernel
theorem dX1_effectAt_14 : decode cX1_effectAt 14 = .ok (.iconst 1, 1) := by decide +kernel
theorem dX1_effectAt_15 : decode cX1_effectAt 15 = .ok (.goto 4, 3) := by decide +kernel
theorem dX1_effectAt_18 : decode cX1_effectAt 18 = .ok (.iconst 0, 1) := by decide +kernel
theorem dX1_effectAt_19 : decode cX1_effectAt 19 = .ok (.ireturn, 1) := by decide +kernel
theorem dX1_allRules_0 : decode cX1_allRules 0 = .ok (.iconst 1, 1) := by decide +kernel
theorem dX1_allRules_1 : decode cX1_allRules 1 = .ok (.aload_n 0, 1) := by decide +kernel
theorem dX1_allRules_2 : decode cX1_allRules 2 = .ok (.getfield 15, 3) := by decide +kernel
theorem dX1_allRules_5 : decode cX1_allRules 5 = .ok (.ishl, 1) := by decide +kernel
theorem dX1_allRules_6 : decode cX1_allRules 6 = .ok (.iconst 1, 1) := by decide +kernel
theorem dX1_allRules_7 : decode cX1_allRules 7 = .ok (.isub, 1) := by decide +kernel
theorem dX1_allRules_8 : decode cX1_allRules 8 = .ok (.ireturn, 1) := by decide +kernel
theorem dX1_applying_0 : decode cX1_applying 0 = .ok (.aload_n 0, 1) := by decide +kernel
theorem dX1_applying_1 : decode cX1_applying 1 = .ok (.getfield 11, 3) := by decide +kernel
theorem dX1_applying_4 : decode cX1_applying 4 = .ok (.iconst 0, 1) := by decide +kernel
theorem dX1_applying_5 : decode cX1_applying 5 = .ok (.iload_n 1, 1) := by decide +kernel
theorem dX1_applying_6 : decode cX1_applying 6 = .ok (.bipush 7, 2) := by decide +kernel
theorem dX1_applying_8 : decode cX1_applying 8 = .ok (.ishr, 1) := by decide +kernel
theorem dX1_applying_9 : decode cX1_applying 9 = .ok (.bipush 7, 2) := by decide +kernel
theorem dX1_applying_11 : decode cX1_applying 11 = .ok (.iand, 1) := by decide +kernel
theorem dX1_applying_12 : decode cX1_applying 12 = .ok (.iadd, 1) := by decide +kernel
theorem dX1_applying_13 : decode cX1_applying 13 = .ok (.iaload, 1) := by decide +kernel
theorem dX1_applying_14 : decode cX1_applying 14 = .ok (.aload_n 0, 1) := by decide +kernel
theorem dX1_applying_15 : decode cX1_applying 15 = .ok (.getfield 11, 3) := by decide +kernel
theorem dX1_applying_18 : decode cX1_applying 18 = .ok (.bipush 8, 2) := by decide +kernel
theorem dX1_applying_20 : decode cX1_applying 20 = .ok (.iload_n 1, 1) := by decide +kernel
theorem dX1_applying_21 : decode cX1_applying 21 = .ok (.iconst 5, 1) := by decide +kernel
theorem dX1_applying_22 : decode cX1_applying 22 = .ok (.ishr, 1) := by decide +kernel
theorem dX1_applying_23 : decode cX1_applying 23 = .ok (.iconst 3, 1) := by decide +kernel
theorem dX1_applying_24 : decode cX1_applying 24 = .ok (.iand, 1) := by decide +kernel
theorem dX1_applying_25 : decode cX1_applying 25 = .ok (.iadd, 1) := by decide +kernel
theorem dX1_applying_26 : decode cX1_applying 26 = .ok (.iaload, 1) := by decide +kernel
theorem dX1_applying_27 : decode cX1_applying 27 = .ok (.iand, 1) := by decide +kernel
theorem dX1_applying_28 : decode cX1_applying 28 = .ok (.aload_n 0, 1) := by decide +kernel
theorem dX1_applying_29 : decode cX1_applying 29 = .ok (.getfield 11, 3) := by decide +kernel
theorem dX1_applying_32 : decode cX1_applying 32 = .ok (.bipush 12, 2) := by decide +kernel
theorem dX1_applying_34 : decode cX1_applying 34 = .ok (.iload_n 1, 1) := by decide +kernel
theorem dX1_applying_35 : decode cX1_applying 35 = .ok (.iconst 2, 1) := by decide +kernel
theorem dX1_applying_36 : decode cX1_applying 36 = .ok (.ishr, 1) := by decide +kernel
theorem dX1_applying_37 : decode cX1_applying 37 = .ok (.bipush 7, 2) := by decide +kernel
theorem dX1_applying_39 : decode cX1_applying 39 = .ok (.iand, 1) := by decide +kernel
theorem dX1_applying_40 : decode cX1_applying 40 = .ok (.iadd, 1) := by decide +kernel
theorem dX1_applying_41 : decode cX1_applying 41 = .ok (.iaload, 1) := by decide +kernel
theorem dX1_applying_42 : decode cX1_applying 42 = .ok (.iand, 1) := by decide +kernel
theorem dX1_applying_43 : decode cX1_applying 43 = .ok (.aload_n 0, 1) := by decide +kernel
theorem dX1_applying_44 : decode cX1_applying 44 = .ok (.getfield 11, 3) := by decide +kernel
theorem dX1_applying_47 : decode cX1_applying 47 = .ok (.bipush 20, 2) := by decide +kernel
theorem dX1_applying_49 : decode cX1_applying 49 = .ok (.iload_n 1, 1) := by decide +kernel
theorem dX1_applying_50 : decode cX1_applying 50 = .ok (.iconst 3, 1) := by decide +kernel
theorem dX1_applying_51 : decode cX1_applying 51 = .ok (.iand, 1) := by decide +kernel
theorem dX1_applying_52 : decode cX1_applying 52 = .ok (.iadd, 1) := by decide +kernel
theorem dX1_applying_53 : decode cX1_applying 53 = .ok (.iaload, 1) := by decide +kernel
theorem dX1_applying_54 : decode cX1_applying 54 = .ok (.iand, 1) := by decide +kernel
theorem dX1_applying_55 : decode cX1_applying 55 = .ok (.ireturn, 1) := by decide +kernel
theorem dX1_decisionOn_0 : decode cX1_decisionOn 0 = .ok (.aload_n 0, 1) := by decide +kernel
theorem dX1_decisionOn_1 : decode cX1_decisionOn 1 = .ok (.aload_n 0, 1) := by decide +kernel
theorem dX1_decisionOn_2 : decode cX1_decisionOn 2 = .ok (.iload_n 1, 1) := by decide +kernel
theorem dX1_decisionOn_3 : decode cX1_decisionOn 3 = .ok (.invokevirtual 48, 3) := by decide +kernel
theorem dX1_decisionOn_6 : decode cX1_decisionOn 6 = .ok (.invokevirtual 52, 3) := by decide +kernel
theorem dX1_decisionOn_9 : decode cX1_decisionOn 9 = .ok (.ireturn, 1) := by decide +kernel
theorem dX1_decisionAmong_0 : decode cX1_decisionAmong 0 = .ok (.iload_n 1, 1) := by decide +kernel
theorem dX1_decisionAmong_1 : decode cX1_decisionAmong 1 = .ok (.ifCond .ne 5, 3) := by decide +kernel
theorem dX1_decisionAmong_4 : decode cX1_decisionAmong 4 = .ok (.iconst 2, 1) := by decide +kernel
theorem dX1_decisionAmong_5 : decode cX1_decisionAmong 5 = .ok (.ireturn, 1) := by decide +kernel
theorem dX1_decisionAmong_6 : decode cX1_decisionAmong 6 = .ok (.iload_n 1, 1) := by decide +kernel
theorem dX1_decisionAmong_7 : decode cX1_decisionAmong 7 = .ok (.aload_n 0, 1) := by decide +kernel
theorem dX1_decisionAmong_8 : decode cX1_decisionAmong 8 = .ok (.getfield 11, 3) := by decide +kernel
theorem dX1_decisionAmong_11 : decode cX1_decisionAmong 11 = .ok (.bipush 24, 2) := by decide +kernel
theorem dX1_decisionAmong_13 : decode cX1_decisionAmong 13 = .ok (.iaload, 1) := by decide +kernel
theorem dX1_decisionAmong_14 : decode cX1_decisionAmong 14 = .ok (.iand, 1) := by decide +kernel
theorem dX1_decisionAmong_15 : decode cX1_decisionAmong 15 = .ok (.istore_n 2, 1) := by decide +kernel
theorem dX1_decisionAmong_16 : decode cX1_decisionAmong 16 = .ok (.aload_n 0, 1) := by decide +kernel
theorem dX1_decisionAmong_17 : decode cX1_decisionAmong 17 = .ok (.getfield 19, 3) := by decide +kernel
theorem dX1_decisionAmong_20 : decode cX1_decisionAmong 20 = .ok (.tableswitch 90 0 3 #[32, 47, 57, 68], 32) := by decide +kernel
theorem dX1_decisionAmong_52 : decode cX1_decisionAmong 52 = .ok (.iload_n 2, 1) := by decide +kernel
theorem dX1_decisionAmong_53 : decode cX1_decisionAmong 53 = .ok (.iload_n 1, 1) := by decide +kernel
theorem dX1_decisionAmong_54 : decode cX1_decisionAmong 54 = .ok (.invokestatic 55, 3) := by decide +kernel
theorem dX1_decisionAmong_57 : decode cX1_decisionAmong 57 = .ok (.iand, 1) := by decide +kernel
theorem dX1_decisionAmong_58 : decode cX1_decisionAmong 58 = .ok (.ifCond .eq 7, 3) := by decide +kernel
theorem dX1_decisionAmong_61 : decode cX1_decisionAmong 61 = .ok (.iconst 1, 1) := by decide +kernel
theorem dX1_decisionAmong_62 : decode cX1_decisionAmong 62 = .ok (.goto 4, 3) := by decide +kernel
theorem dX1_decisionAmong_65 : decode cX1_decisionAmong 65 = .ok (.iconst 0, 1) := by decide +kernel
theorem dX1_decisionAmong_66 : decode cX1_decisionAmong 66 = .ok (.ireturn, 1) := by decide +kernel
theorem dX1_decisionAmong_67 : decode cX1_decisionAmong 67 = .ok (.iload_n 2, 1) := by decide +kernel
theorem dX1_decisionAmong_68 : decode cX1_decisionAmong 68 = .ok (.ifCond .eq 7, 3) := by decide +kernel
theorem dX1_decisionAmong_71 : decode cX1_decisionAmong 71 = .ok (.iconst 1, 1) := by decide +kernel
theorem dX1_decisionAmong_72 : decode cX1_decisionAmong 72 = .ok (.goto 4, 3) := by decide +kernel
theorem dX1_decisionAmong_75 : decode cX1_decisionAmong 75 = .ok (.iconst 0, 1) := by decide +kernel
theorem dX1_decisionAmong_76 : decode cX1_decisionAmong 76 = .ok (.ireturn, 1) := by decide +kernel
theorem dX1_decisionAmong_77 : decode cX1_decisionAmong 77 = .ok (.iload_n 2, 1) := by decide +kernel
theorem dX1_decisionAmong_78 : decode cX1_decisionAmong 78 = .ok (.iload_n 1, 1) := by decide +kernel
theorem dX1_decisionAmong_79 : decode cX1_decisionAmong 79 = .ok (.if_icmp .eq 7, 3) := by decide +kernel
theorem dX1_decisionAmong_82 : decode cX1_decisionAmong 82 = .ok (.iconst 0, 1) := by decide +kernel
theorem dX1_decisionAmong_83 : decode cX1_decisionAmong 83 = .ok (.goto 4, 3) := by decide +kernel
theorem dX1_decisionAmong_86 : decode cX1_decisionAmong 86 = .ok (.iconst 1, 1) := by decide +kernel
theorem dX1_decisionAmong_87 : decode cX1_decisionAmong 87 = .ok (.ireturn, 1) := by decide +kernel
theorem dX1_decisionAmong_88 : decode cX1_decisionAmong 88 = .ok (.iload_n 1, 1) := by decide +kernel
theorem dX1_decisionAmong_89 : decode cX1_decisionAmong 89 = .ok (.invokestatic 60, 3) := by decide +kernel
theorem dX1_decisionAmong_92 : decode cX1_decisionAmong 92 = .ok (.iconst 1, 1) := by decide +kernel
theorem dX1_decisionAmong_93 : decode cX1_decisionAmong 93 = .ok (.if_icmp .le 7, 3) := by decide +kernel
theorem dX1_decisionAmong_96 : decode cX1_decisionAmong 96 = .ok (.iconst 3, 1) := by decide +kernel
theorem dX1_decisionAmong_97 : decode cX1_decisionAmong 97 = .ok (.goto 12, 3) := by decide +kernel
theorem dX1_decisionAmong_100 : decode cX1_decisionAmong 100 = .ok (.iload_n 2, 1) := by decide +kernel
theorem dX1_decisionAmong_101 : decode cX1_decisionAmong 101 = .ok (.ifCond .eq 7, 3) := by decide +kernel
theorem dX1_decisionAmong_104 : decode cX1_decisionAmong 104 = .ok (.iconst 1, 1) := by decide +kernel
theorem dX1_decisionAmong_105 : decode cX1_decisionAmong 105 = .ok (.goto 4, 3) := by decide +kernel
theorem dX1_decisionAmong_108 : decode cX1_decisionAmong 108 = .ok (.iconst 0, 1) := by decide +kernel
theorem dX1_decisionAmong_109 : decode cX1_decisionAmong 109 = .ok (.ireturn, 1) := by decide +kernel
theorem dX1_decisionAmong_110 : decode cX1_decisionAmong 110 = .ok (.iload_n 1, 1) := by decide +kernel
theorem dX1_decisionAmong_111 : decode cX1_decisionAmong 111 = .ok (.iload_n 2, 1) := by decide +kernel
theorem dX1_decisionAmong_112 : decode cX1_decisionAmong 112 = .ok (.iconst (-1), 1) := by decide +kernel
theorem dX1_decisionAmong_113 : decode cX1_decisionAmong 113 = .ok (.ixor, 1) := by decide +kernel
theorem dX1_decisionAmong_114 : decode cX1_decisionAmong 114 = .ok (.iand, 1) := by decide +kernel
theorem dX1_decisionAmong_115 : decode cX1_decisionAmong 115 = .ok (.invokestatic 60, 3) := by decide +kernel
theorem dX1_decisionAmong_118 : decode cX1_decisionAmong 118 = .ok (.iload_n 2, 1) := by decide +kernel
theorem dX1_decisionAmong_119 : decode cX1_decisionAmong 119 = .ok (.invokestatic 60, 3) := by decide +kernel
theorem dX1_decisionAmong_122 : decode cX1_decisionAmong 122 = .ok (.invokestatic 63, 3) := by decide +kernel
theorem dX1_decisionAmong_125 : decode cX1_decisionAmong 125 = .ok (.ireturn, 1) := by decide +kernel
theorem dX1_majority_0 : decode cX1_majority 0 = .ok (.iload_n 0, 1) := by decide +kernel
theorem dX1_majority_1 : decode cX1_majority 1 = .ok (.iload_n 1, 1) := by decide +kernel
theorem dX1_majority_2 : decode cX1_majority 2 = .ok (.if_icmp .ne 5, 3) := by decide +kernel
theorem dX1_majority_5 : decode cX1_majority 5 = .ok (.iconst 3, 1) := by decide +kernel
theorem dX1_majority_6 : decode cX1_majority 6 = .ok (.ireturn, 1) := by decide +kernel
theorem dX1_majority_7 : decode cX1_majority 7 = .ok (.iload_n 0, 1) := by decide +kernel
theorem dX1_majority_8 : decode cX1_majority 8 = .ok (.iload_n 1, 1) := by decide +kernel
theorem dX1_majority_9 : decode cX1_majority 9 = .ok (.if_icmp .le 7, 3) := by decide +kernel
theorem dX1_majority_12 : decode cX1_majority 12 = .ok (.iconst 0, 1) := by decide +kernel
theorem dX1_majority_13 : decode cX1_majority 13 = .ok (.goto 4, 3) := by decide +kernel
theorem dX1_majority_16 : decode cX1_majority 16 = .ok (.iconst 1, 1) := by decide +kernel
theorem dX1_majority_17 : decode cX1_majority 17 = .ok (.ireturn, 1) := by decide +kernel
theorem dX1_withBitInserted_0 : decode cX1_withBitInserted 0 = .ok (.iconst 1, 1) := by decide +kernel
theorem dX1_withBitInserted_1 : decode cX1_withBitInserted 1 = .ok (.iload_n 1, 1) := by decide +kernel
theorem dX1_withBitInserted_2 : decode cX1_withBitInserted 2 = .ok (.ishl, 1) := by decide +kernel
theorem dX1_withBitInserted_3 : decode cX1_withBitInserted 3 = .ok (.iconst 1, 1) := by decide +kernel
theorem dX1_withBitInserted_4 : decode cX1_withBitInserted 4 = .ok (.isub, 1) := by decide +kernel
theorem dX1_withBitInserted_5 : decode cX1_withBitInserted 5 = .ok (.istore_n 3, 1) := by decide +kernel
theorem dX1_withBitInserted_6 : decode cX1_withBitInserted 6 = .ok (.iload_n 0, 1) := by decide +kernel
theorem dX1_withBitInserted_7 : decode cX1_withBitInserted 7 = .ok (.iload_n 3, 1) := by decide +kernel
theorem dX1_withBitInserted_8 : decode cX1_withBitInserted 8 = .ok (.iand, 1) := by decide +kernel
theorem dX1_withBitInserted_9 : decode cX1_withBitInserted 9 = .ok (.iload_n 2, 1) := by decide +kernel
theorem dX1_withBitInserted_10 : decode cX1_withBitInserted 10 = .ok (.iload_n 1, 1) := by decide +kernel
theorem dX1_withBitInserted_11 : decode cX1_withBitInserted 11 = .ok (.ishl, 1) := by decide +kernel
theorem dX1_withBitInserted_12 : decode cX1_withBitInserted 12 = .ok (.ior, 1) := by decide +kernel
theorem dX1_withBitInserted_13 : decode cX1_withBitInserted 13 = .ok (.iload_n 0, 1) := by decide +kernel
theorem dX1_withBitInserted_14 : decode cX1_withBitInserted 14 = .ok (.iload_n 3, 1) := by decide +kernel
theorem dX1_withBitInserted_15 : decode cX1_withBitInserted 15 = .ok (.iconst (-1), 1) := by decide +kernel
theorem dX1_withBitInserted_16 : decode cX1_withBitInserted 16 = .ok (.ixor, 1) := by decide +kernel
theorem dX1_withBitInserted_17 : decode cX1_withBitInserted 17 = .ok (.iand, 1) := by decide +kernel
theorem dX1_withBitInserted_18 : decode cX1_withBitInserted 18 = .ok (.iconst 1, 1) := by decide +kernel
theorem dX1_withBitInserted_19 : decode cX1_withBitInserted 19 = .ok (.ishl, 1) := by decide +kernel
theorem dX1_withBitInserted_20 : decode cX1_withBitInserted 20 = .ok (.ior, 1) := by decide +kernel
theorem dX1_withBitInserted_21 : decode cX1_withBitInserted 21 = .ok (.ireturn, 1) := by decide +kernel
theorem dX1_withBitDropped_0 : decode cX1_withBitDropped 0 = .ok (.iconst 1, 1) := by decide +kernel
theorem dX1_withBitDropped_1 : decode cX1_withBitDropped 1 = .ok (.iload_n 1, 1) := by decide +kernel
theorem dX1_withBitDropped_2 : decode cX1_withBitDropped 2 = .ok (.ishl, 1) := by decide +kernel
theorem dX1_withBitDropped_3 : decode cX1_withBitDropped 3 = .ok (.iconst 1, 1) := by decide +kernel
theorem dX1_withBitDropped_4 : decode cX1_withBitDropped 4 = .ok (.isub, 1) := by decide +kernel
theorem dX1_withBitDropped_5 : decode cX1_withBitDropped 5 = .ok (.istore_n 2, 1) := by decide +kernel
theorem dX1_withBitDropped_6 : decode cX1_withBitDropped 6 = .ok (.iload_n 0, 1) := by decide +kernel
theorem dX1_withBitDropped_7 : decode cX1_withBitDropped 7 = .ok (.iload_n 2, 1) := by decide +kernel
theorem dX1_withBitDropped_8 : decode cX1_withBitDropped 8 = .ok (.iand, 1) := by decide +kernel
theorem dX1_withBitDropped_9 : decode cX1_withBitDropped 9 = .ok (.iload_n 0, 1) := by decide +kernel
theorem dX1_withBitDropped_10 : decode cX1_withBitDropped 10 = .ok (.iconst 1, 1) := by decide +kernel
theorem dX1_withBitDropped_11 : decode cX1_withBitDropped 11 = .ok (.ishr, 1) := by decide +kernel
theorem dX1_withBitDropped_12 : decode cX1_withBitDropped 12 = .ok (.iload_n 2, 1) := by decide +kernel
theorem dX1_withBitDropped_13 : decode cX1_withBitDropped 13 = .ok (.iconst (-1), 1) := by decide +kernel
theorem dX1_withBitDropped_14 : decode cX1_withBitDropped 14 = .ok (.ixor, 1) := by decide +kernel
theorem dX1_withBitDropped_15 : decode cX1_withBitDropped 15 = .ok (.iand, 1) := by decide +kernel
theorem dX1_withBitDropped_16 : decode cX1_withBitDropped 16 = .ok (.ior, 1) := by decide +kernel
theorem dX1_withBitDropped_17 : decode cX1_withBitDropped 17 = .ok (.ireturn, 1) := by decide +kernel
theorem dX2_init_0 : decode cX2_init 0 = .ok (.aload_n 0, 1) := by decide +kernel
theorem dX2_init_1 : decode cX2_init 1 = .ok (.invokespecial 3, 3) := by decide +kernel
theorem dX2_init_4 : decode cX2_init 4 = .ok (.aload_n 0, 1) := by decide +kernel
theorem dX2_init_5 : decode cX2_init 5 = .ok (.sipush 240, 3) := by decide +kernel
theorem dX2_init_8 : decode cX2_init 8 = .ok (.newarray .char, 2) := by decide +kernel
theorem dX2_init_10 : decode cX2_init 10 = .ok (.putfield 9, 3) := by decide +kernel
theorem dX2_init_13 : decode cX2_init 13 = .ok (.aload_n 0, 1) := by decide +kernel
theorem dX2_init_14 : decode cX2_init 14 = .ok (.new 15, 3) := by decide +kernel
theorem dX2_init_17 : decode cX2_init 17 = .ok (.dup, 1) := by decide +kernel
theorem dX2_init_18 : decode cX2_init 18 = .ok (.invokespecial 17, 3) := by decide +kernel
theorem dX2_init_21 : decode cX2_init 21 = .ok (.putfield 18, 3) := by decide +kernel
theorem dX2_init_24 : decode cX2_init 24 = .ok (.aload_n 0, 1) := by decide +kernel
theorem dX2_init_25 : decode cX2_init 25 = .ok (.new 15, 3) := by decide +kernel
theorem dX2_init_28 : decode cX2_init 28 = .ok (.dup, 1) := by decide +kernel
theorem dX2_init_29 : decode cX2_init 29 = .ok (.invokespecial 17, 3) := by decide +kernel
theorem dX2_init_32 : decode cX2_init 32 = .ok (.putfield 22, 3) := by decide +kernel
theorem dX2_init_35 : decode cX2_init 35 = .ok (.aload_n 0, 1) := by decide +kernel
theorem dX2_init_36 : decode cX2_init 36 = .ok (.aload_n 0, 1) := by decide +kernel
theorem dX2_init_37 : decode cX2_init 37 = .ok (.getfield 18, 3) := by decide +kernel
theorem dX2_init_40 : decode cX2_init 40 = .ok (.putfield 25, 3) := by decide +kernel
theorem dX2_init_43 : decode cX2_init 43 = .ok (.aload_n 0, 1) := by decide +kernel
theorem dX2_init_44 : decode cX2_init 44 = .ok (.iconst 0, 1) := by decide +kernel
theorem dX2_init_45 : decode cX2_init 45 = .ok (.putfield 28, 3) := by decide +kernel
theorem dX2_init_48 : decode cX2_init 48 = .ok (.aload_n 0, 1) := by decide +kernel
theorem dX2_init_49 : decode cX2_init 49 = .ok (.iconst 0, 1) := by decide +kernel
theorem dX2_init_50 : decode cX2_init 50 = .ok (.putfield 32, 3) := by decide +kernel
theorem dX2_init_53 : decode cX2_init 53 = .ok (.return_, 1) := by decide +kernel
theorem dX2_length_0 : decode cX2_length 0 = .ok (.aload_n 0, 1) := by decide +kernel
theorem dX2_length_1 : decode cX2_length 1 = .ok (.getfield 28, 3) := by decide +kernel
theorem dX2_length_4 : decode cX2_length 4 = .ok (.ireturn, 1) := by decide +kernel
theorem dX2_oldDraft_0 : decode cX2_oldDraft 0 = .ok (.aload_n 0, 1) := by decide +kernel
theorem dX2_oldDraft_1 : decode cX2_oldDraft 1 = .ok (.getfield 18, 3) := by decide +kernel
theorem dX2_oldDraft_4 : decode cX2_oldDraft 4 = .ok (.areturn, 1) := by decide +kernel
theorem dX2_newDraft_0 : decode cX2_newDraft 0 = .ok (.aload_n 0, 1) := by decide +kernel
theorem dX2_newDraft_1 : decode cX2_newDraft 1 = .ok (.getfield 22, 3) := by decide +kernel
theorem dX2_newDraft_4 : decode cX2_newDraft 4 = .ok (.areturn, 1) := by decide +kernel
theorem dX2_add_0 : decode cX2_add 0 = .ok (.aload_n 0, 1) := by decide +kernel
theorem dX2_add_1 : decode cX2_add 1 = .ok (.getfield 28, 3) := by decide +kernel
theorem dX2_add_4 : decode cX2_add 4 = .ok (.ifCond .lt 15, 3) := by decide +kernel
theorem dX2_add_7 : decode cX2_add 7 = .ok (.aload_n 0, 1) := by decide +kernel
theorem dX2_add_8 : decode cX2_add 8 = .ok (.getfield 28, 3) := by decide +kernel
theorem dX2_add_11 : decode cX2_add 11 = .ok (.aload_n 0, 1) := by decide +kernel
theorem dX2_add_12 : decode cX2_add 12 = .ok (.getfield 9, 3) := by decide +kernel
theorem dX2_add_15 : decode cX2_add 15 = .ok (.arraylength, 1) := by decide +kernel
theorem dX2_add_16 : decode cX2_add 16 = .ok (.if_icmp .lt 5, 3) := by decide +kernel
theorem dX2_add_19 : decode cX2_add 19 = .ok (.iconst 0, 1) := by decide +kernel
theorem dX2_add_20 : decode cX2_add 20 = .ok (.ireturn, 1) := by decide +kernel
theorem dX2_add_21 : decode cX2_add 21 = .ok (.aload_n 0, 1) := by decide +kernel
theorem dX2_add_22 : decode cX2_add 22 = .ok (.getfield 9, 3) := by decide +kernel
theorem dX2_add_25 : decode cX2_add 25 = .ok (.aload_n 0, 1) := by decide +kernel
theorem dX2_add_26 : decode cX2_add 26 = .ok (.getfield 28, 3) := by decide +kernel
theorem dX2_add_29 : decode cX2_add 29 = .ok (.iload_n 1, 1) := by decide +kernel
theorem dX2_add_30 : decode cX2_add 30 = .ok (.castore, 1) := by decide +kernel
theorem dX2_add_31 : decode cX2_add 31 = .ok (.aload_n 0, 1) := by decide +kernel
theorem dX2_add_32 : decode cX2_add 32 = .ok (.dup, 1) := by decide +kernel
theorem dX2_add_33 : decode cX2_add 33 = .ok (.getfield 28, 3) := by decide +kernel
theorem dX2_add_36 : decode cX2_add 36 = .ok (.iconst 1, 1) := by decide +kernel
theorem dX2_add_37 : decode cX2_add 37 = .ok (.iadd, 1) := by decide +kernel
theorem dX2_add_38 : decode cX2_add 38 = .ok (.putfield 28, 3) := by decide +kernel
theorem dX2_add_41 : decode cX2_add 41 = .ok (.iconst 1, 1) := by decide +kernel
theorem dX2_add_42 : decode cX2_add 42 = .ok (.ireturn, 1) := by decide +kernel
theorem dX2_empty_0 : decode cX2_empty 0 = .ok (.aload_n 0, 1) := by decide +kernel
theorem dX2_empty_1 : decode cX2_empty 1 = .ok (.iconst 0, 1) := by decide +kernel
theorem dX2_empty_2 : decode cX2_empty 2 = .ok (.putfield 28, 3) := by decide +kernel
theorem dX2_empty_5 : decode cX2_empty 5 = .ok (.return_, 1) := by decide +kernel
theorem dX2_firstMalformed_0 : decode cX2_firstMalformed 0 = .ok (.aload_n 0, 1) := by decide +kernel
theorem dX2_firstMalformed_1 : decode cX2_firstMalformed 1 = .ok (.getfield 18, 3) := by decide +kernel
theorem dX2_firstMalformed_4 : decode cX2_firstMalformed 4 = .ok (.invokevirtual 35, 3) := by decide +kernel
theorem dX2_firstMalformed_7 : decode cX2_firstMalformed 7 = .ok (.aload_n 0, 1) := by decide +kernel
theorem dX2_firstMalformed_8 : decode cX2_firstMalformed 8 = .ok (.getfield 22, 3) := by decide +kernel
theorem dX2_firstMalformed_11 : decode cX2_firstMalformed 11 = .ok (.invokevirtual 35, 3) := by decide +kernel
theorem dX2_firstMalformed_14 : decode cX2_firstMalformed 14 = .ok (.aload_n 0, 1) := by decide +kernel
theorem dX2_firstMalformed_15 : decode cX2_firstMalformed 15 = .ok (.aload_n 0, 1) := by decide +kernel
theorem dX2_firstMalformed_16 : decode cX2_firstMalformed 16 = .ok (.getfield 18, 3) := by decide +kernel
theorem dX2_firstMalformed_19 : decode cX2_firstMalformed 19 = .ok (.putfield 25, 3) := by decide +kernel
theorem dX2_firstMalformed_22 : decode cX2_firstMalformed 22 = .ok (.aload_n 0, 1) := by decide +kernel
theorem dX2_firstMalformed_23 : decode cX2_firstMalformed 23 = .ok (.iconst 0, 1) := by decide +kernel
theorem dX2_firstMalformed_24 : decode cX2_firstMalformed 24 = .ok (.putfield 32, 3) := by decide +kernel
theorem dX2_firstMalformed_27 : decode cX2_firstMalformed 27 = .ok (.iconst 0, 1) := by decide +kernel
theorem dX2_firstMalformed_28 : decode cX2_firstMalformed 28 = .ok (.istore_n 1, 1) := by decide +kernel
theorem dX2_firstMalformed_29 : decode cX2_firstMalformed 29 = .ok (.iload_n 1, 1) := by decide +kernel
theorem dX2_firstMalformed_30 : decode cX2_firstMalformed 30 = .ok (.sipush 240, 3) := by decide +kernel
theorem dX2_firstMalformed_33 : decode cX2_firstMalformed 33 = .ok (.if_icmp .ge 43, 3) := by decide +kernel
theorem dX2_firstMalformed_36 : decode cX2_firstMalformed 36 = .ok (.aload_n 0, 1) := by decide +kernel
theorem dX2_firstMalformed_37 : decode cX2_firstMalformed 37 = .ok (.getfield 32, 3) := by decide +kernel
theorem dX2_firstMalformed_40 : decode cX2_firstMalformed 40 = .ok (.aload_n 0, 1) := by decide +kernel
theorem dX2_firstMalformed_41 : decode cX2_firstMalformed 41 = .ok (.getfield 28, 3) := by decide +kernel
theorem dX2_firstMalformed_44 : decode cX2_firstMalformed 44 = .ok (.if_icmp .ge 32, 3) := by decide +kernel
theorem dX2_firstMalformed_47 : decode cX2_firstMalformed 47 = .ok (.aload_n 0, 1) := by decide +kernel
theorem dX2_firstMalformed_48 : decode cX2_firstMalformed 48 = .ok (.getfield 32, 3) := by decide +kernel
theorem dX2_firstMalformed_51 : decode cX2_firstMalformed 51 = .ok (.istore_n 2, 1) := by decide +kernel
theorem dX2_firstMalformed_52 : decode cX2_firstMalformed 52 = .ok (.aload_n 0, 1) := by decide +kernel
theorem dX2_firstMalformed_53 : decode cX2_firstMalformed 53 = .ok (.invokevirtual 38, 3) := by decide +kernel
theorem dX2_firstMalformed_56 : decode cX2_firstMalformed 56 = .ok (.ifCond .eq 12, 3) := by decide +kernel
theorem dX2_firstMalformed_59 : decode cX2_firstMalformed 59 = .ok (.aload_n 0, 1) := by decide +kernel
theorem dX2_firstMalformed_60 : decode cX2_firstMalformed 60 = .ok (.ldc 42, 2) := by decide +kernel
theorem dX2_firstMalformed_62 : decode cX2_firstMalformed 62 = .ok (.invokevirtual 44, 3) := by decide +kernel
theorem dX2_firstMalformed_65 : decode cX2_firstMalformed 65 = .ok (.ifCond .ne 5, 3) := by decide +kernel
theorem dX2_firstMalformed_68 : decode cX2_firstMalformed 68 = .ok (.iload_n 2, 1) := by decide +kernel
theorem dX2_firstMalformed_69 : decode cX2_firstMalformed 69 = .ok (.ireturn, 1) := by decide +kernel
theorem dX2_firstMalformed_70 : decode cX2_firstMalformed 70 = .ok (.iinc 1 1, 3) := by decide +kernel
theorem dX2_firstMalformed_73 : decode cX2_firstMalformed 73 = .ok (.goto (-44), 3) := by decide +kernel
theorem dX2_firstMalformed_76 : decode cX2_firstMalformed 76 = .ok (.bipush (-4), 2) := by decide +kernel
theorem dX2_firstMalformed_78 : decode cX2_firstMalformed 78 = .ok (.ireturn, 1) := by decide +kernel
theorem dX2_readStatement_0 : decode cX2_readStatement 0 = .ok (.aload_n 0, 1) := by decide +kernel
theorem dX2_readStatement_1 : decode cX2_readStatement 1 = .ok (.ldc 48, 2) := by decide +kernel
theorem dX2_readStatement_3 : decode cX2_readStatement 3 = .ok (.invokevirtual 44, 3) := by decide +kernel
theorem dX2_readStatement_6 : decode cX2_readStatement 6 = .ok (.ifCond .eq 13, 3) := by decide +kernel
theorem dX2_readStatement_9 : decode cX2_readStatement 9 = .ok (.aload_n 0, 1) := by decide +kernel
theorem dX2_readStatement_10 : decode cX2_readStatement 10 = .ok (.aload_n 0, 1) := by decide +kernel
theorem dX2_readStatement_11 : decode cX2_readStatement 11 = .ok (.getfield 18, 3) := by decide +kernel
theorem dX2_readStatement_14 : decode cX2_readStatement 14 = .ok (.putfield 25, 3) := by decide +kernel
theorem dX2_readStatement_17 : decode cX2_readStatement 17 = .ok (.iconst 1, 1) := by decide +kernel
theorem dX2_readStatement_18 : decode cX2_readStatement 18 = .ok (.ireturn, 1) := by decide +kernel
theorem dX2_readStatement_19 : decode cX2_readStatement 19 = .ok (.aload_n 0, 1) := by decide +kernel
theorem dX2_readStatement_20 : decode cX2_readStatement 20 = .ok (.ldc 50, 2) := by decide +kernel
theorem dX2_readStatement_22 : decode cX2_readStatement 22 = .ok (.invokevirtual 44, 3) := by decide +kernel
theorem dX2_readStatement_25 : decode cX2_readStatement 25 = .ok (.ifCond .eq 13, 3) := by decide +kernel
theorem dX2_readStatement_28 : decode cX2_readStatement 28 = .ok (.aload_n 0, 1) := by decide +kernel
theorem dX2_readStatement_29 : decode cX2_readStatement 29 = .ok (.aload_n 0, 1) := by decide +kernel
theorem dX2_readStatement_30 : decode cX2_readStatement 30 = .ok (.getfield 22, 3) := by decide +kernel
theorem dX2_readStatement_33 : decode cX2_readStatement 33 = .ok (.putfield 25, 3) := by decide +kernel
theorem dX2_readStatement_36 : decode cX2_readStatement 36 = .ok (.iconst 1, 1) := by decide +kernel
theorem dX2_readStatement_37 : decode cX2_readStatement 37 = .ok (.ireturn, 1) := by decide +kernel
theorem dX2_readStatement_38 : decode cX2_readStatement 38 = .ok (.aload_n 0, 1) := by decide +kernel
theorem dX2_readStatement_39 : decode cX2_readStatement 39 = .ok (.ldc 52, 2) := by decide +kernel
theorem dX2_readStatement_41 : decode cX2_readStatement 41 = .ok (.invokevirtual 44, 3) := by decide +kernel
theorem dX2_readStatement_44 : decode cX2_readStatement 44 = .ok (.ifCond .eq 8, 3) := by decide +kernel
theorem dX2_readStatement_47 : decode cX2_readStatement 47 = .ok (.aload_n 0, 1) := by decide +kernel
theorem dX2_readStatement_48 : decode cX2_readStatement 48 = .ok (.invokevirtual 54, 3) := by decide +kernel
theorem dX2_readStatement_51 : decode cX2_readStatement 51 = .ok (.ireturn, 1) := by decide +kernel
theorem dX2_readStatement_52 : decode cX2_readStatement 52 = .ok (.aload_n 0, 1) := by decide +kernel
theorem dX2_readStatement_53 : decode cX2_readStatement 53 = .ok (.ldc 57, 2) := by decide +kernel
theorem dX2_readStatement_55 : decode cX2_readStatement 55 = .ok (.invokevirtual 44, 3) := by decide +kernel
theorem dX2_readStatement_58 : decode cX2_readStatement 58 = .ok (.ifCond .eq 9, 3) := by decide +kernel
theorem dX2_readStatement_61 : decode cX2_readStatement 61 = .ok (.aload_n 0, 1) := by decide +kernel
theorem dX2_readStatement_62 : decode cX2_readStatement 62 = .ok (.iconst 0, 1) := by decide +kernel
theorem dX2_readStatement_63 : decode cX2_readStatement 63 = .ok (.invokevirtual 59, 3) := by decide +kernel
theorem dX2_readStatement_66 : decode cX2_readStatement 66 = .ok (.ireturn, 1) := by decide +kernel
theorem dX2_readStatement_67 : decode cX2_readStatement 67 = .ok (.aload_n 0, 1) := by decide +kernel
theorem dX2_readStatement_68 : decode cX2_readStatement 68 = .ok (.ldc 63, 2) := by decide +kernel
theorem dX2_readStatement_70 : decode cX2_readStatement 70 = .ok (.invokevirtual 44, 3) := by decide +kernel
theorem dX2_readStatement_73 : decode cX2_readStatement 73 = .ok (.ifCond .eq 15, 3) := by decide +kernel
theorem dX2_readStatement_76 : decode cX2_readStatement 76 = .ok (.aload_n 0, 1) := by decide +kernel
theorem dX2_readStatement_77 : decode cX2_readStatement 77 = .ok (.iconst 1, 1) := by decide +kernel
theorem dX2_readStatement_78 : decode cX2_readStatement 78 = .ok (.invokevirtual 59, 3) := by decide +kernel
theorem dX2_readStatement_81 : decode cX2_readStatement 81 = .ok (.ifCond .eq 7, 3) := by decide +kernel
theorem dX2_readStatement_84 : decode cX2_readStatement 84 = .ok (.iconst 1, 1) := by decide +kernel
theorem dX2_readStatement_85 : decode cX2_readStatement 85 = .ok (.goto 4, 3) := by decide +kernel
theorem dX2_readStatement_88 : decode cX2_readStatement 88 = .ok (.iconst 0, 1) := by decide +kernel
theorem dX2_readStatement_89 : decode cX2_readStatement 89 = .ok (.ireturn, 1) := by decide +kernel
theorem dX2_readAlgorithm_0 : decode cX2_readAlgorithm 0 = .ok (.bipush (-4), 2) := by decide +kernel
theorem dX2_readAlgorithm_2 : decode cX2_readAlgorithm 2 = .ok (.istore_n 1, 1) := by decide +kernel
theorem dX2_readAlgorithm_3 : decode cX2_readAlgorithm 3 = .ok (.aload_n 0, 1) := by decide +kernel
theorem dX2_readAlgorithm_4 : decode cX2_readAlgorithm 4 = .ok (.ldc 65, 2) := by decide +kernel
theorem dX2_readAlgorithm_6 : decode cX2_readAlgorithm 6 = .ok (.invokevirtual 44, 3) := by decide +kernel
theorem dX2_readAlgorithm_9 : decode cX2_readAlgorithm 9 = .ok (.ifCond .eq 8, 3) := by decide +kernel
theorem dX2_readAlgorithm_12 : decode cX2_readAlgorithm 12 = .ok (.iconst 0, 1) := by decide +kernel
theorem dX2_readAlgorithm_13 : decode cX2_readAlgorithm 13 = .ok (.istore_n 1, 1) := by decide +kernel
theorem dX2_readAlgorithm_14 : decode cX2_readAlgorithm 14 = .ok (.goto 56, 3) := by decide +kernel
theorem dX2_readAlgorithm_17 : decode cX2_readAlgorithm 17 = .ok (.aload_n 0, 1) := by decide +kernel
theorem dX2_readAlgorithm_18 : decode cX2_readAlgorithm 18 = .ok (.ldc 67, 2) := by decide +kernel
theorem dX2_readAlgorithm_20 : decode cX2_readAlgorithm 20 = .ok (.invokevirtual 44, 3) := by decide +kernel
theorem dX2_readAlgorithm_23 : decode cX2_readAlgorithm 23 = .ok (.ifCond .eq 8, 3) := by decide +kernel
theorem dX2_readAlgorithm_26 : decode cX2_readAlgorithm 26 = .ok (.iconst 1, 1) := by decide +kernel
theorem dX2_readAlgorithm_27 : decode cX2_readAlgorithm 27 = .ok (.istore_n 1, 1) := by decide +kernel
theorem dX2_readAlgorithm_28 : decode cX2_readAlgorithm 28 = .ok (.goto 42, 3) := by decide +kernel
theorem dX2_readAlgorithm_31 : decode cX2_readAlgorithm 31 = .ok (.aload_n 0, 1) := by decide +kernel
theorem dX2_readAlgorithm_32 : decode cX2_readAlgorithm 32 = .ok (.ldc 69, 2) := by decide +kernel
theorem dX2_readAlgorithm_34 : decode cX2_readAlgorithm 34 = .ok (.invokevirtual 44, 3) := by decide +kernel
theorem dX2_readAlgorithm_37 : decode cX2_readAlgorithm 37 = .ok (.ifCond .eq 8, 3) := by decide +kernel
theorem dX2_readAlgorithm_40 : decode cX2_readAlgorithm 40 = .ok (.iconst 2, 1) := by decide +kernel
theorem dX2_readAlgorithm_41 : decode cX2_readAlgorithm 41 = .ok (.istore_n 1, 1) := by decide +kernel
theorem dX2_readAlgorithm_42 : decode cX2_readAlgorithm 42 = .ok (.goto 28, 3) := by decide +kernel
theorem dX2_readAlgorithm_45 : decode cX2_readAlgorithm 45 = .ok (.aload_n 0, 1) := by decide +kernel
theorem dX2_readAlgorithm_46 : decode cX2_readAlgorithm 46 = .ok (.ldc 71, 2) := by decide +kernel
theorem dX2_readAlgorithm_48 : decode cX2_readAlgorithm 48 = .ok (.invokevirtual 44, 3) := by decide +kernel
theorem dX2_readAlgorithm_51 : decode cX2_readAlgorithm 51 = .ok (.ifCond .eq 8, 3) := by decide +kernel
theorem dX2_readAlgorithm_54 : decode cX2_readAlgorithm 54 = .ok (.iconst 3, 1) := by decide +kernel
theorem dX2_readAlgorithm_55 : decode cX2_readAlgorithm 55 = .ok (.istore_n 1, 1) := by decide +kernel
theorem dX2_readAlgorithm_56 : decode cX2_readAlgorithm 56 = .ok (.goto 14, 3) := by decide +kernel
theorem dX2_readAlgorithm_59 : decode cX2_readAlgorithm 59 = .ok (.aload_n 0, 1) := by decide +kernel
theorem dX2_readAlgorithm_60 : decode cX2_readAlgorithm 60 = .ok (.ldc 73, 2) := by decide +kernel
theorem dX2_readAlgorithm_62 : decode cX2_readAlgorithm 62 = .ok (.invokevirtual 44, 3) := by decide +kernel
theorem dX2_readAlgorithm_65 : decode cX2_readAlgorithm 65 = .ok (.ifCond .eq 5, 3) := by decide +kernel
theorem dX2_readAlgorithm_68 : decode cX2_readAlgorithm 68 = .ok (.iconst 4, 1) := by decide +kernel
theorem dX2_readAlgorithm_69 : decode cX2_readAlgorithm 69 = .ok (.istore_n 1, 1) := by decide +kernel
theorem dX2_readAlgorithm_70 : decode cX2_readAlgorithm 70 = .ok (.iload_n 1, 1) := by decide +kernel
theorem dX2_readAlgorithm_71 : decode cX2_readAlgorithm 71 = .ok (.bipush (-4), 2) := by decide +kernel
theorem dX2_readAlgorithm_73 : decode cX2_readAlgorithm 73 = .ok (.if_icmp .ne 5, 3) := by decide +kernel
theorem dX2_readAlgorithm_76 : decode cX2_readAlgorithm 76 = .ok (.iconst 0, 1) := by decide +kernel
theorem dX2_readAlgorithm_77 : decode cX2_readAlgorithm 77 = .ok (.ireturn, 1) := by decide +kernel
theorem dX2_readAlgorithm_78 : decode cX2_readAlgorithm 78 = .ok (.aload_n 0, 1) := by decide +kernel
theorem dX2_readAlgorithm_79 : decode cX2_readAlgorithm 79 = .ok (.getfield 25, 3) := by decide +kernel
theorem dX2_readAlgorithm_82 : decode cX2_readAlgorithm 82 = .ok (.iload_n 1, 1) := by decide +kernel
theorem dX2_readAlgorithm_83 : decode cX2_readAlgorithm 83 = .ok (.invokevirtual 75, 3) := by decide +kernel
theorem dX2_readAlgorithm_86 : decode cX2_readAlgorithm 86 = .ok (.iconst 1, 1) := by decide +kernel
theorem dX2_readAlgorithm_87 : decode cX2_readAlgorithm 87 = .ok (.ireturn, 1) := by decide +kernel
theorem dX2_readRule_0 : decode cX2_readRule 0 = .ok (.aload_n 0, 1) := by decide +kernel
theorem dX2_readRule_1 : decode cX2_readRule 1 = .ok (.getfield 25, 3) := by decide +kernel
theorem dX2_readRule_4 : decode cX2_readRule 4 = .ok (.invokevirtual 78, 3) := by decide +kernel
theorem dX2_readRule_7 : decode cX2_readRule 7 = .ok (.istore_n 2, 1) := by decide +kernel
theorem dX2_readRule_8 : decode cX2_readRule 8 = .ok (.iload_n 2, 1) := by decide +kernel
theorem dX2_readRule_9 : decode cX2_readRule 9 = .ok (.bipush 8, 2) := by decide +kernel
theorem dX2_readRule_11 : decode cX2_readRule 11 = .ok (.if_icmp .lt 5, 3) := by decide +kernel
theorem dX2_readRule_14 : decode cX2_readRule 14 = .ok (.iconst 0, 1) := by decide +kernel
theorem dX2_readRule_15 : decode cX2_readRule 15 = .ok (.ireturn, 1) := by decide +kernel
theorem dX2_readRule_16 : decode cX2_readRule 16 = .ok (.aload_n 0, 1) := by decide +kernel
theorem dX2_readRule_17 : decode cX2_readRule 17 = .ok (.getfield 25, 3) := by decide +kernel
theorem dX2_readRule_20 : decode cX2_readRule 20 = .ok (.iload_n 2, 1) := by decide +kernel
theorem dX2_readRule_21 : decode cX2_readRule 21 = .ok (.iload_n 1, 1) := by decide +kernel
theorem dX2_readRule_22 : decode cX2_readRule 22 = .ok (.invokevirtual 82, 3) := by decide +kernel
theorem dX2_readRule_25 : decode cX2_readRule 25 = .ok (.iconst 0, 1) := by decide +kernel
theorem dX2_readRule_26 : decode cX2_readRule 26 = .ok (.istore_n 3, 1) := by decide +kernel
theorem dX2_readRule_27 : decode cX2_readRule 27 = .ok (.iconst 0, 1) := by decide +kernel
theorem dX2_readRule_28 : decode cX2_readRule 28 = .ok (.istore 4, 2) := by decide +kernel
theorem dX2_readRule_30 : decode cX2_readRule 30 = .ok (.iload 4, 2) := by decide +kernel
theorem dX2_readRule_32 : decode cX2_readRule 32 = .ok (.iconst 4, 1) := by decide +kernel
theorem dX2_readRule_33 : decode cX2_readRule 33 = .ok (.if_icmp .ge 78, 3) := by decide +kernel
theorem dX2_readRule_36 : decode cX2_readRule 36 = .ok (.aload_n 0, 1) := by decide +kernel
theorem dX2_readRule_37 : decode cX2_readRule 37 = .ok (.ldc 86, 2) := by decide +kernel
theorem dX2_readRule_39 : decode cX2_readRule 39 = .ok (.invokevirtual 44, 3) := by decide +kernel
theorem dX2_readRule_42 : decode cX2_readRule 42 = .ok (.ifCond .eq 69, 3) := by decide +kernel
theorem dX2_readRule_45 : decode cX2_readRule 45 = .ok (.aload_n 0, 1) := by decide +kernel
theorem dX2_readRule_46 : decode cX2_readRule 46 = .ok (.invokevirtual 88, 3) := by decide +kernel
theorem dX2_readRule_49 : decode cX2_readRule 49 = .ok (.istore 5, 2) := by decide +kernel
theorem dX2_readRule_51 : decode cX2_readRule 51 = .ok (.iload 5, 2) := by decide +kernel
theorem dX2_readRule_53 : decode cX2_readRule 53 = .ok (.ifCond .lt 12, 3) := by decide +kernel
theorem dX2_readRule_56 : decode cX2_readRule 56 = .ok (.iload_n 3, 1) := by decide +kernel
theorem dX2_readRule_57 : decode cX2_readRule 57 = .ok (.iload 5, 2) := by decide +kernel
theorem dX2_readRule_59 : decode cX2_readRule 59 = .ok (.ishr, 1) := by decide +kernel
theorem dX2_readRule_60 : decode cX2_readRule 60 = .ok (.iconst 1, 1) := by decide +kernel
theorem dX2_readRule_61 : decode cX2_readRule 61 = .ok (.iand, 1) := by decide +kernel
theorem dX2_readRule_62 : decode cX2_readRule 62 = .ok (.ifCond .eq 5, 3) := by decide +kernel
theorem dX2_readRule_65 : decode cX2_readRule 65 = .ok (.iconst 0, 1) := by decide +kernel
theorem dX2_readRule_66 : decode cX2_readRule 66 = .ok (.ireturn, 1) := by decide +kernel
theorem dX2_readRule_67 : decode cX2_readRule 67 = .ok (.iload_n 3, 1) := by decide +kernel
theorem dX2_readRule_68 : decode cX2_readRule 68 = .ok (.iconst 1, 1) := by decide +kernel
theorem dX2_readRule_69 : decode cX2_readRule 69 = .ok (.iload 5, 2) := by decide +kernel
theorem dX2_readRule_71 : decode cX2_readRule 71 = .ok (.ishl, 1) := by decide +kernel
theorem dX2_readRule_72 : decode cX2_readRule 72 = .ok (.ior, 1) := by decide +kernel
theorem dX2_readRule_73 : decode cX2_readRule 73 = .ok (.istore_n 3, 1) := by decide +kernel
theorem dX2_readRule_74 : decode cX2_readRule 74 = .ok (.aload_n 0, 1) := by decide +kernel
theorem dX2_readRule_75 : decode cX2_readRule 75 = .ok (.getstatic 91, 3) := by decide +kernel
theorem dX2_readRule_78 : decode cX2_readRule 78 = .ok (.iload 5, 2) := by decide +kernel
theorem dX2_readRule_80 : decode cX2_readRule 80 = .ok (.iaload, 1) := by decide +kernel
theorem dX2_readRule_81 : decode cX2_readRule 81 = .ok (.invokevirtual 95, 3) := by decide +kernel
theorem dX2_readRule_84 : decode cX2_readRule 84 = .ok (.istore 6, 2) := by decide +kernel
theorem dX2_readRule_86 : decode cX2_readRule 86 = .ok (.iload 6, 2) := by decide +kernel
theorem dX2_readRule_88 : decode cX2_readRule 88 = .ok (.ifCond .ne 5, 3) := by decide +kernel
theorem dX2_readRule_91 : decode cX2_readRule 91 = .ok (.iconst 0, 1) := by decide +kernel
theorem dX2_readRule_92 : decode cX2_readRule 92 = .ok (.ireturn, 1) := by decide +kernel
theorem dX2_readRule_93 : decode cX2_readRule 93 = .ok (.aload_n 0, 1) := by decide +kernel
theorem dX2_readRule_94 : decode cX2_readRule 94 = .ok (.getfield 25, 3) := by decide +kernel
theorem dX2_readRule_97 : decode cX2_readRule 97 = .ok (.iload_n 2, 1) := by decide +kernel
theorem dX2_readRule_98 : decode cX2_readRule 98 = .ok (.iload 5, 2) := by decide +kernel
theorem dX2_readRule_100 : decode cX2_readRule 100 = .ok (.iload 6, 2) := by decide +kernel
theorem dX2_readRule_102 : decode cX2_readRule 102 = .ok (.invokevirtual 99, 3) := by decide +kernel
theorem dX2_readRule_105 : decode cX2_readRule 105 = .ok (.iinc 4 1, 3) := by decide +kernel
theorem dX2_readRule_108 : decode cX2_readRule 108 = .ok (.goto (-78), 3) := by decide +kernel
theorem dX2_readRule_111 : decode cX2_readRule 111 = .ok (.iconst 1, 1) := by decide +kernel
theorem dX2_readRule_112 : decode cX2_readRule 112 = .ok (.ireturn, 1) := by decide +kernel
theorem dX2_readAttribute_0 : decode cX2_readAttribute 0 = .ok (.iconst 0, 1) := by decide +kernel
theorem dX2_readAttribute_1 : decode cX2_readAttribute 1 = .ok (.istore_n 1, 1) := by decide +kernel
theorem dX2_readAttribute_2 : decode cX2_readAttribute 2 = .ok (.iload_n 1, 1) := by decide +kernel
theorem dX2_readAttribute_3 : decode cX2_readAttribute 3 = .ok (.iconst 4, 1) := by decide +kernel
theorem dX2_readAttribute_4 : decode cX2_readAttribute 4 = .ok (.if_icmp .ge 24, 3) := by decide +kernel
theorem dX2_readAttribute_7 : decode cX2_readAttribute 7 = .ok (.aload_n 0, 1) := by decide +kernel
theorem dX2_readAttribute_8 : decode cX2_readAttribute 8 = .ok (.ldc 103, 2) := by decide +kernel
theorem dX2_readAttribute_10 : decode cX2_readAttribute 10 = .ok (.iload_n 1, 1) := by decide +kernel
theorem dX2_readAttribute_11 : decode cX2_readAttribute 11 = .ok (.invokevirtual 105, 3) := by decide +kernel
theorem dX2_readAttribute_14 : decode cX2_readAttribute 14 = .ok (.invokevirtual 111, 3) := by decide +kernel
theorem dX2_readAttribute_17 : decode cX2_readAttribute 17 = .ok (.ifCond .eq 5, 3) := by decide +kernel
theorem dX2_readAttribute_20 : decode cX2_readAttribute 20 = .ok (.iload_n 1, 1) := by decide +kernel
theorem dX2_readAttribute_21 : decode cX2_readAttribute 21 = .ok (.ireturn, 1) := by decide +kernel
theorem dX2_readAttribute_22 : decode cX2_readAttribute 22 = .ok (.iinc 1 1, 3) := by decide +kernel
theorem dX2_readAttribute_25 : decode cX2_readAttribute 25 = .ok (.goto (-23), 3) := by decide +kernel
theorem dX2_readAttribute_28 : decode cX2_readAttribute 28 = .ok (.bipush (-4), 2) := by decide +kernel
theorem dX2_readAttribute_30 : decode cX2_readAttribute 30 = .ok (.ireturn, 1) := by decide +kernel
theorem dX2_readValues_0 : decode cX2_readValues 0 = .ok (.iconst 0, 1) := by decide +kernel
theorem dX2_readValues_1 : decode cX2_readValues 1 = .ok (.istore_n 2, 1) := by decide +kernel
theorem dX2_readValues_2 : decode cX2_readValues 2 = .ok (.iconst 0, 1) := by decide +kernel
theorem dX2_readValues_3 : decode cX2_readValues 3 = .ok (.istore_n 3, 1) := by decide +kernel
theorem dX2_readValues_4 : decode cX2_readValues 4 = .ok (.iload_n 3, 1) := by decide +kernel
theorem dX2_readValues_5 : decode cX2_readValues 5 = .ok (.iload_n 1, 1) := by decide +kernel
theorem dX2_readValues_6 : decode cX2_readValues 6 = .ok (.if_icmp .ge 73, 3) := by decide +kernel
theorem dX2_readValues_9 : decode cX2_readValues 9 = .ok (.aload_n 0, 1) := by decide +kernel
theorem dX2_readValues_10 : decode cX2_readValues 10 = .ok (.getfield 32, 3) := by decide +kernel
theorem dX2_readValues_13 : decode cX2_readValues 13 = .ok (.aload_n 0, 1) := by decide +kernel
theorem dX2_readValues_14 : decode cX2_readValues 14 = .ok (.getfield 28, 3) := by decide +kernel
theorem dX2_readValues_17 : decode cX2_readValues 17 = .ok (.if_icmp .ge 62, 3) := by decide +kernel
theorem dX2_readValues_20 : decode cX2_readValues 20 = .ok (.aload_n 0, 1) := by decide +kernel
theorem dX2_readValues_21 : decode cX2_readValues 21 = .ok (.getfield 9, 3) := by decide +kernel
theorem dX2_readValues_24 : decode cX2_readValues 24 = .ok (.aload_n 0, 1) := by decide +kernel
theorem dX2_readValues_25 : decode cX2_readValues 25 = .ok (.getfield 32, 3) := by decide +kernel
theorem dX2_readValues_28 : decode cX2_readValues 28 = .ok (.caload, 1) := by decide +kernel
theorem dX2_readValues_29 : decode cX2_readValues 29 = .ok (.bipush 48, 2) := by decide +kernel
theorem dX2_readValues_31 : decode cX2_readValues 31 = .ok (.isub, 1) := by decide +kernel
theorem dX2_readValues_32 : decode cX2_readValues 32 = .ok (.istore 4, 2) := by decide +kernel
theorem dX2_readValues_34 : decode cX2_readValues 34 = .ok (.iload 4, 2) := by decide +kernel
theorem dX2_readValues_36 : decode cX2_readValues 36 = .ok (.ifCond .lt 18, 3) := by decide +kernel
theorem dX2_readValues_39 : decode cX2_readValues 39 = .ok (.iload 4, 2) := by decide +kernel
theorem dX2_readValues_41 : decode cX2_readValues 41 = .ok (.iload_n 1, 1) := by decide +kernel
theorem dX2_readValues_42 : decode cX2_readValues 42 = .ok (.if_icmp .ge 12, 3) := by decide +kernel
theorem dX2_readValues_45 : decode cX2_readValues 45 = .ok (.iload_n 2, 1) := by decide +kernel
theorem dX2_readValues_46 : decode cX2_readValues 46 = .ok (.iload 4, 2) := by decide +kernel
theorem dX2_readValues_48 : decode cX2_readValues 48 = .ok (.ishr, 1) := by decide +kernel
theorem dX2_readValues_49 : decode cX2_readValues 49 = .ok (.iconst 1, 1) := by decide +kernel
theorem dX2_readValues_50 : decode cX2_readValues 50 = .ok (.iand, 1) := by decide +kernel
theorem dX2_readValues_51 : decode cX2_readValues 51 = .ok (.ifCond .eq 5, 3) := by decide +kernel
theorem dX2_readValues_54 : decode cX2_readValues 54 = .ok (.iload_n 2, 1) := by decide +kernel
theorem dX2_readValues_55 : decode cX2_readValues 55 = .ok (.ireturn, 1) := by decide +kernel
theorem dX2_readValues_56 : decode cX2_readValues 56 = .ok (.iload_n 2, 1) := by decide +kernel
theorem dX2_readValues_57 : decode cX2_readValues 57 = .ok (.iconst 1, 1) := by decide +kernel
theorem dX2_readValues_58 : decode cX2_readValues 58 = .ok (.iload 4, 2) := by decide +kernel
theorem dX2_readValues_60 : decode cX2_readValues 60 = .ok (.ishl, 1) := by decide +kernel
theorem dX2_readValues_61 : decode cX2_readValues 61 = .ok (.ior, 1) := by decide +kernel
theorem dX2_readValues_62 : decode cX2_readValues 62 = .ok (.istore_n 2, 1) := by decide +kernel
theorem dX2_readValues_63 : decode cX2_readValues 63 = .ok (.aload_n 0, 1) := by decide +kernel
theorem dX2_readValues_64 : decode cX2_readValues 64 = .ok (.dup, 1) := by decide +kernel
theorem dX2_readValues_65 : decode cX2_readValues 65 = .ok (.getfield 32, 3) := by decide +kernel
theorem dX2_readValues_68 : decode cX2_readValues 68 = .ok (.iconst 1, 1) := by decide +kernel
theorem dX2_readValues_69 : decode cX2_readValues 69 = .ok (.iadd, 1) := by decide +kernel
theorem dX2_readValues_70 : decode cX2_readValues 70 = .ok (.putfield 32, 3) := by decide +kernel
theorem dX2_readValues_73 : decode cX2_readValues 73 = .ok (.iinc 3 1, 3) := by decide +kernel
theorem dX2_readValues_76 : decode cX2_readValues 76 = .ok (.goto (-72), 3) := by decide +kernel
theorem dX2_readValues_79 : decode cX2_readValues 79 = .ok (.iload_n 2, 1) := by decide +kernel
theorem dX2_readValues_80 : decode cX2_readValues 80 = .ok (.ireturn, 1) := by decide +kernel
theorem dX2_acceptCharacter_0 : decode cX2_acceptCharacter 0 = .ok (.aload_n 0, 1) := by decide +kernel
theorem dX2_acceptCharacter_1 : decode cX2_acceptCharacter 1 = .ok (.getfield 32, 3) := by decide +kernel
theorem dX2_acceptCharacter_4 : decode cX2_acceptCharacter 4 = .ok (.aload_n 0, 1) := by decide +kernel
theorem dX2_acceptCharacter_5 : decode cX2_acceptCharacter 5 = .ok (.getfield 28, 3) := by decide +kernel
theorem dX2_acceptCharacter_8 : decode cX2_acceptCharacter 8 = .ok (.if_icmp .ge 16, 3) := by decide +kernel
theorem dX2_acceptCharacter_11 : decode cX2_acceptCharacter 11 = .ok (.aload_n 0, 1) := by decide +kernel
theorem dX2_acceptCharacter_12 : decode cX2_acceptCharacter 12 = .ok (.getfield 9, 3) := by decide +kernel
theorem dX2_acceptCharacter_15 : decode cX2_acceptCharacter 15 = .ok (.aload_n 0, 1) := by decide +kernel
theorem dX2_acceptCharacter_16 : decode cX2_acceptCharacter 16 = .ok (.getfield 32, 3) := by decide +kernel
theorem dX2_acceptCharacter_19 : decode cX2_acceptCharacter 19 = .ok (.caload, 1) := by decide +kernel
theorem dX2_acceptCharacter_20 : decode cX2_acceptCharacter 20 = .ok (.iload_n 1, 1) := by decide +kernel
theorem dX2_acceptCharacter_21 : decode cX2_acceptCharacter 21 = .ok (.if_icmp .eq 5, 3) := by decide +kernel
theorem dX2_acceptCharacter_24 : decode cX2_acceptCharacter 24 = .ok (.iconst 0, 1) := by decide +kernel
theorem dX2_acceptCharacter_25 : decode cX2_acceptCharacter 25 = .ok (.ireturn, 1) := by decide +kernel
theorem dX2_acceptCharacter_26 : decode cX2_acceptCharacter 26 = .ok (.aload_n 0, 1) := by decide +kernel
theorem dX2_acceptCharacter_27 : decode cX2_acceptCharacter 27 = .ok (.dup, 1) := by decide +kernel
theorem dX2_acceptCharacter_28 : decode cX2_acceptCharacter 28 = .ok (.getfield 32, 3) := by decide +kernel
theorem dX2_acceptCharacter_31 : decode cX2_acceptCharacter 31 = .ok (.iconst 1, 1) := by decide +kernel
theorem dX2_acceptCharacter_32 : decode cX2_acceptCharacter 32 = .ok (.iadd, 1) := by decide +kernel
theorem dX2_acceptCharacter_33 : decode cX2_acceptCharacter 33 = .ok (.putfield 32, 3) := by decide +kernel
theorem dX2_acceptCharacter_36 : decode cX2_acceptCharacter 36 = .ok (.iconst 1, 1) := by decide +kernel
theorem dX2_acceptCharacter_37 : decode cX2_acceptCharacter 37 = .ok (.ireturn, 1) := by decide +kernel
theorem dX2_accept_0 : decode cX2_accept 0 = .ok (.aload_n 1, 1) := by decide +kernel
theorem dX2_accept_1 : decode cX2_accept 1 = .ok (.invokevirtual 115, 3) := by decide +kernel
theorem dX2_accept_4 : decode cX2_accept 4 = .ok (.aload_n 0, 1) := by decide +kernel
theorem dX2_accept_5 : decode cX2_accept 5 = .ok (.getfield 28, 3) := by decide +kernel
theorem dX2_accept_8 : decode cX2_accept 8 = .ok (.aload_n 0, 1) := by decide +kernel
theorem dX2_accept_9 : decode cX2_accept 9 = .ok (.getfield 32, 3) := by decide +kernel
theorem dX2_accept_12 : decode cX2_accept 12 = .ok (.isub, 1) := by decide +kernel
theorem dX2_accept_13 : decode cX2_accept 13 = .ok (.if_icmp .le 5, 3) := by decide +kernel
theorem dX2_accept_16 : decode cX2_accept 16 = .ok (.iconst 0, 1) := by decide +kernel
theorem dX2_accept_17 : decode cX2_accept 17 = .ok (.ireturn, 1) := by decide +kernel
theorem dX2_accept_18 : decode cX2_accept 18 = .ok (.iconst 0, 1) := by decide +kernel
theorem dX2_accept_19 : decode cX2_accept 19 = .ok (.istore_n 2, 1) := by decide +kernel
theorem dX2_accept_20 : decode cX2_accept 20 = .ok (.iload_n 2, 1) := by decide +kernel
theorem dX2_accept_21 : decode cX2_accept 21 = .ok (.aload_n 1, 1) := by decide +kernel
theorem dX2_accept_22 : decode cX2_accept 22 = .ok (.invokevirtual 115, 3) := by decide +kernel
theorem dX2_accept_25 : decode cX2_accept 25 = .ok (.if_icmp .ge 30, 3) := by decide +kernel
theorem dX2_accept_28 : decode cX2_accept 28 = .ok (.aload_n 0, 1) := by decide +kernel
theorem dX2_accept_29 : decode cX2_accept 29 = .ok (.getfield 9, 3) := by decide +kernel
theorem dX2_accept_32 : decode cX2_accept 32 = .ok (.aload_n 0, 1) := by decide +kernel
theorem dX2_accept_33 : decode cX2_accept 33 = .ok (.getfield 32, 3) := by decide +kernel
theorem dX2_accept_36 : decode cX2_accept 36 = .ok (.iload_n 2, 1) := by decide +kernel
theorem dX2_accept_37 : decode cX2_accept 37 = .ok (.iadd, 1) := by decide +kernel
theorem dX2_accept_38 : decode cX2_accept 38 = .ok (.caload, 1) := by decide +kernel
theorem dX2_accept_39 : decode cX2_accept 39 = .ok (.aload_n 1, 1) := by decide +kernel
theorem dX2_accept_40 : decode cX2_accept 40 = .ok (.iload_n 2, 1) := by decide +kernel
theorem dX2_accept_41 : decode cX2_accept 41 = .ok (.invokevirtual 105, 3) := by decide +kernel
theorem dX2_accept_44 : decode cX2_accept 44 = .ok (.if_icmp .eq 5, 3) := by decide +kernel
theorem dX2_accept_47 : decode cX2_accept 47 = .ok (.iconst 0, 1) := by decide +kernel
theorem dX2_accept_48 : decode cX2_accept 48 = .ok (.ireturn, 1) := by decide +kernel
theorem dX2_accept_49 : decode cX2_accept 49 = .ok (.iinc 2 1, 3) := by decide +kernel
theorem dX2_accept_52 : decode cX2_accept 52 = .ok (.goto (-32), 3) := by decide +kernel
theorem dX2_accept_55 : decode cX2_accept 55 = .ok (.aload_n 0, 1) := by decide +kernel
theorem dX2_accept_56 : decode cX2_accept 56 = .ok (.dup, 1) := by decide +kernel
theorem dX2_accept_57 : decode cX2_accept 57 = .ok (.getfield 32, 3) := by decide +kernel
theorem dX2_accept_60 : decode cX2_accept 60 = .ok (.aload_n 1, 1) := by decide +kernel
theorem dX2_accept_61 : decode cX2_accept 61 = .ok (.invokevirtual 115, 3) := by decide +kernel
theorem dX2_accept_64 : decode cX2_accept 64 = .ok (.iadd, 1) := by decide +kernel
theorem dX2_accept_65 : decode cX2_accept 65 = .ok (.putfield 32, 3) := by decide +kernel
theorem dX2_accept_68 : decode cX2_accept 68 = .ok (.iconst 1, 1) := by decide +kernel
theorem dX2_accept_69 : decode cX2_accept 69 = .ok (.ireturn, 1) := by decide +kernel
theorem dX3_init_0 : decode cX3_init 0 = .ok (.aload_n 0, 1) := by decide +kernel
theorem dX3_init_1 : decode cX3_init 1 = .ok (.invokespecial 3, 3) := by decide +kernel
theorem dX3_init_4 : decode cX3_init 4 = .ok (.aload_n 0, 1) := by decide +kernel
theorem dX3_init_5 : decode cX3_init 5 = .ok (.sipush 256, 3) := by decide +kernel
theorem dX3_init_8 : decode cX3_init 8 = .ok (.newarray .int, 2) := by decide +kernel
theorem dX3_init_10 : decode cX3_init 10 = .ok (.putfield 9, 3) := by decide +kernel
theorem dX3_init_13 : decode cX3_init 13 = .ok (.aload_n 0, 1) := by decide +kernel
theorem dX3_init_14 : decode cX3_init 14 = .ok (.sipush 256, 3) := by decide +kernel
theorem dX3_init_17 : decode cX3_init 17 = .ok (.newarray .boolean, 2) := by decide +kernel
theorem dX3_init_19 : decode cX3_init 19 = .ok (.putfield 15, 3) := by decide +kernel
theorem dX3_init_22 : decode cX3_init 22 = .ok (.aload_n 0, 1) := by decide +kernel
theorem dX3_init_23 : decode cX3_init 23 = .ok (.iconst 0, 1) := by decide +kernel
theorem dX3_init_24 : decode cX3_init 24 = .ok (.putfield 19, 3) := by decide +kernel
theorem dX3_init_27 : decode cX3_init 27 = .ok (.return_, 1) := by decide +kernel
theorem dX3_empty_0 : decode cX3_empty 0 = .ok (.iconst 0, 1) := by decide +kernel
theorem dX3_empty_1 : decode cX3_empty 1 = .ok (.istore_n 1, 1) := by decide +kernel
theorem dX3_empty_2 : decode cX3_empty 2 = .ok (.iload_n 1, 1) := by decide +kernel
theorem dX3_empty_3 : decode cX3_empty 3 = .ok (.sipush 256, 3) := by decide +kernel
theorem dX3_empty_6 : decode cX3_empty 6 = .ok (.if_icmp .ge 16, 3) := by decide +kernel
theorem dX3_empty_9 : decode cX3_empty 9 = .ok (.aload_n 0, 1) := by decide +kernel
theorem dX3_empty_10 : decode cX3_empty 10 = .ok (.getfield 15, 3) := by decide +kernel
theorem dX3_empty_13 : decode cX3_empty 13 = .ok (.iload_n 1, 1) := by decide +kernel
theorem dX3_empty_14 : decode cX3_empty 14 = .ok (.iconst 0, 1) := by decide +kernel
theorem dX3_empty_15 : decode cX3_empty 15 = .ok (.bastore, 1) := by decide +kernel
theorem dX3_empty_16 : decode cX3_empty 16 = .ok (.iinc 1 1, 3) := by decide +kernel
theorem dX3_empty_19 : decode cX3_empty 19 = .ok (.goto (-17), 3) := by decide +kernel
theorem dX3_empty_22 : decode cX3_empty 22 = .ok (.aload_n 0, 1) := by decide +kernel
theorem dX3_empty_23 : decode cX3_empty 23 = .ok (.iconst 0, 1) := by decide +kernel
theorem dX3_empty_24 : decode cX3_empty 24 = .ok (.putfield 19, 3) := by decide +kernel
theorem dX3_empty_27 : decode cX3_empty 27 = .ok (.return_, 1) := by decide +kernel
theorem dX3_add_0 : decode cX3_add 0 = .ok (.iload_n 1, 1) := by decide +kernel
theorem dX3_add_1 : decode cX3_add 1 = .ok (.ifCond .lt 29, 3) := by decide +kernel
theorem dX3_add_4 : decode cX3_add 4 = .ok (.iload_n 1, 1) := by decide +kernel
theorem dX3_add_5 : decode cX3_add 5 = .ok (.sipush 256, 3) := by decide +kernel
theorem dX3_add_8 : decode cX3_add 8 = .ok (.if_icmp .ge 22, 3) := by decide +kernel
theorem dX3_add_11 : decode cX3_add 11 = .ok (.aload_n 0, 1) := by decide +kernel
theorem dX3_add_12 : decode cX3_add 12 = .ok (.getfield 15, 3) := by decide +kernel
theorem dX3_add_15 : decode cX3_add 15 = .ok (.iload_n 1, 1) := by decide +kernel
theorem dX3_add_16 : decode cX3_add 16 = .ok (.baload, 1) := by decide +kernel
theorem dX3_add_17 : decode cX3_add 17 = .ok (.ifCond .ne 13, 3) := by decide +kernel
theorem dX3_add_20 : decode cX3_add 20 = .ok (.aload_n 0, 1) := by decide +kernel
theorem dX3_add_21 : decode cX3_add 21 = .ok (.getfield 19, 3) := by decide +kernel
theorem dX3_add_24 : decode cX3_add 24 = .ok (.sipush 256, 3) := by decide +kernel
theorem dX3_add_27 : decode cX3_add 27 = .ok (.if_icmp .lt 4, 3) := by decide +kernel
theorem dX3_add_30 : decode cX3_add 30 = .ok (.return_, 1) := by decide +kernel
theorem dX3_add_31 : decode cX3_add 31 = .ok (.aload_n 0, 1) := by decide +kernel
theorem dX3_add_32 : decode cX3_add 32 = .ok (.getfield 15, 3) := by decide +kernel
theorem dX3_add_35 : decode cX3_add 35 = .ok (.iload_n 1, 1) := by decide +kernel
theorem dX3_add_36 : decode cX3_add 36 = .ok (.iconst 1, 1) := by decide +kernel
theorem dX3_add_37 : decode cX3_add 37 = .ok (.bastore, 1) := by decide +kernel
theorem dX3_add_38 : decode cX3_add 38 = .ok (.aload_n 0, 1) := by decide +kernel
theorem dX3_add_39 : decode cX3_add 39 = .ok (.getfield 9, 3) := by decide +kernel
theorem dX3_add_42 : decode cX3_add 42 = .ok (.aload_n 0, 1) := by decide +kernel
theorem dX3_add_43 : decode cX3_add 43 = .ok (.getfield 19, 3) := by decide +kernel
theorem dX3_add_46 : decode cX3_add 46 = .ok (.iload_n 1, 1) := by decide +kernel
theorem dX3_add_47 : decode cX3_add 47 = .ok (.iastore, 1) := by decide +kernel
theorem dX3_add_48 : decode cX3_add 48 = .ok (.aload_n 0, 1) := by decide +kernel
theorem dX3_add_49 : decode cX3_add 49 = .ok (.dup, 1) := by decide +kernel
theorem dX3_add_50 : decode cX3_add 50 = .ok (.getfield 19, 3) := by decide +kernel
theorem dX3_add_53 : decode cX3_add 53 = .ok (.iconst 1, 1) := by decide +kernel
theorem dX3_add_54 : decode cX3_add 54 = .ok (.iadd, 1) := by decide +kernel
theorem dX3_add_55 : decode cX3_add 55 = .ok (.putfield 19, 3) := by decide +kernel
theorem dX3_add_58 : decode cX3_add 58 = .ok (.return_, 1) := by decide +kernel
theorem dX3_anyGranted_0 : decode cX3_anyGranted 0 = .ok (.iconst 0, 1) := by decide +kernel
theorem dX3_anyGranted_1 : decode cX3_anyGranted 1 = .ok (.istore_n 3, 1) := by decide +kernel
theorem dX3_anyGranted_2 : decode cX3_anyGranted 2 = .ok (.iload_n 3, 1) := by decide +kernel
theorem dX3_anyGranted_3 : decode cX3_anyGranted 3 = .ok (.aload_n 0, 1) := by decide +kernel
theorem dX3_anyGranted_4 : decode cX3_anyGranted 4 = .ok (.getfield 19, 3) := by decide +kernel
theorem dX3_anyGranted_7 : decode cX3_anyGranted 7 = .ok (.if_icmp .ge 26, 3) := by decide +kernel
theorem dX3_anyGranted_10 : decode cX3_anyGranted 10 = .ok (.aload_n 1, 1) := by decide +kernel
theorem dX3_anyGranted_11 : decode cX3_anyGranted 11 = .ok (.aload_n 0, 1) := by decide +kernel
theorem dX3_anyGranted_12 : decode cX3_anyGranted 12 = .ok (.getfield 9, 3) := by decide +kernel
theorem dX3_anyGranted_15 : decode cX3_anyGranted 15 = .ok (.iload_n 3, 1) := by decide +kernel
theorem dX3_anyGranted_16 : decode cX3_anyGranted 16 = .ok (.iaload, 1) := by decide +kernel
theorem dX3_anyGranted_17 : decode cX3_anyGranted 17 = .ok (.iload_n 2, 1) := by decide +kernel
theorem dX3_anyGranted_18 : decode cX3_anyGranted 18 = .ok (.iand, 1) := by decide +kernel
theorem dX3_anyGranted_19 : decode cX3_anyGranted 19 = .ok (.invokevirtual 23, 3) := by decide +kernel
theorem dX3_anyGranted_22 : decode cX3_anyGranted 22 = .ok (.ifCond .ne 5, 3) := by decide +kernel
theorem dX3_anyGranted_25 : decode cX3_anyGranted 25 = .ok (.iconst 1, 1) := by decide +kernel
theorem dX3_anyGranted_26 : decode cX3_anyGranted 26 = .ok (.ireturn, 1) := by decide +kernel
theorem dX3_anyGranted_27 : decode cX3_anyGranted 27 = .ok (.iinc 3 1, 3) := by decide +kernel
theorem dX3_anyGranted_30 : decode cX3_anyGranted 30 = .ok (.goto (-28), 3) := by decide +kernel
theorem dX3_anyGranted_33 : decode cX3_anyGranted 33 = .ok (.iconst 0, 1) := by decide +kernel
theorem dX3_anyGranted_34 : decode cX3_anyGranted 34 = .ok (.ireturn, 1) := by decide +kernel
theorem dX3_sameDecisions_0 : decode cX3_sameDecisions 0 = .ok (.iconst 0, 1) := by decide +kernel
theorem dX3_sameDecisions_1 : decode cX3_sameDecisions 1 = .ok (.istore 4, 2) := by decide +kernel
theorem dX3_sameDecisions_3 : decode cX3_sameDecisions 3 = .ok (.iload 4, 2) := by decide +kernel
theorem dX3_sameDecisions_5 : decode cX3_sameDecisions 5 = .ok (.aload_n 0, 1) := by decide +kernel
theorem dX3_sameDecisions_6 : decode cX3_sameDecisions 6 = .ok (.getfield 19, 3) := by decide +kernel
theorem dX3_sameDecisions_9 : decode cX3_sameDecisions 9 = .ok (.if_icmp .ge 40, 3) := by decide +kernel
theorem dX3_sameDecisions_12 : decode cX3_sameDecisions 12 = .ok (.aload_n 1, 1) := by decide +kernel
theorem dX3_sameDecisions_13 : decode cX3_sameDecisions 13 = .ok (.aload_n 0, 1) := by decide +kernel
theorem dX3_sameDecisions_14 : decode cX3_sameDecisions 14 = .ok (.getfield 9, 3) := by decide +kernel
theorem dX3_sameDecisions_17 : decode cX3_sameDecisions 17 = .ok (.iload 4, 2) := by decide +kernel
theorem dX3_sameDecisions_19 : decode cX3_sameDecisions 19 = .ok (.iaload, 1) := by decide +kernel
theorem dX3_sameDecisions_20 : decode cX3_sameDecisions 20 = .ok (.iload_n 2, 1) := by decide +kernel
theorem dX3_sameDecisions_21 : decode cX3_sameDecisions 21 = .ok (.iand, 1) := by decide +kernel
theorem dX3_sameDecisions_22 : decode cX3_sameDecisions 22 = .ok (.invokevirtual 23, 3) := by decide +kernel
theorem dX3_sameDecisions_25 : decode cX3_sameDecisions 25 = .ok (.aload_n 1, 1) := by decide +kernel
theorem dX3_sameDecisions_26 : decode cX3_sameDecisions 26 = .ok (.aload_n 0, 1) := by decide +kernel
theorem dX3_sameDecisions_27 : decode cX3_sameDecisions 27 = .ok (.getfield 9, 3) := by decide +kernel
theorem dX3_sameDecisions_30 : decode cX3_sameDecisions 30 = .ok (.iload 4, 2) := by decide +kernel
theorem dX3_sameDecisions_32 : decode cX3_sameDecisions 32 = .ok (.iaload, 1) := by decide +kernel
theorem dX3_sameDecisions_33 : decode cX3_sameDecisions 33 = .ok (.iload_n 3, 1) := by decide +kernel
theorem dX3_sameDecisions_34 : decode cX3_sameDecisions 34 = .ok (.iand, 1) := by decide +kernel
theorem dX3_sameDecisions_35 : decode cX3_sameDecisions 35 = .ok (.invokevirtual 23, 3) := by decide +kernel
theorem dX3_sameDecisions_38 : decode cX3_sameDecisions 38 = .ok (.if_icmp .eq 5, 3) := by decide +kernel
theorem dX3_sameDecisions_41 : decode cX3_sameDecisions 41 = .ok (.iconst 0, 1) := by decide +kernel
theorem dX3_sameDecisions_42 : decode cX3_sameDecisions 42 = .ok (.ireturn, 1) := by decide +kernel
theorem dX3_sameDecisions_43 : decode cX3_sameDecisions 43 = .ok (.iinc 4 1, 3) := by decide +kernel
theorem dX3_sameDecisions_46 : decode cX3_sameDecisions 46 = .ok (.goto (-43), 3) := by decide +kernel
theorem dX3_sameDecisions_49 : decode cX3_sameDecisions 49 = .ok (.iconst 1, 1) := by decide +kernel
theorem dX3_sameDecisions_50 : decode cX3_sameDecisions 50 = .ok (.ireturn, 1) := by decide +kernel
theorem dX4_init_0 : decode cX4_init 0 = .ok (.aload_n 0, 1) := by decide +kernel
theorem dX4_init_1 : decode cX4_init 1 = .ok (.invokespecial 1, 3) := by decide +kernel
theorem dX4_init_4 : decode cX4_init 4 = .ok (.aload_n 0, 1) := by decide +kernel
theorem dX4_init_5 : decode cX4_init 5 = .ok (.new 7, 3) := by decide +kernel
theorem dX4_init_8 : decode cX4_init 8 = .ok (.dup, 1) := by decide +kernel
theorem dX4_init_9 : decode cX4_init 9 = .ok (.invokespecial 9, 3) := by decide +kernel
theorem dX4_init_12 : decode cX4_init 12 = .ok (.putfield 10, 3) := by decide +kernel
theorem dX4_init_15 : decode cX4_init 15 = .ok (.aload_n 0, 1) := by decide +kernel
theorem dX4_init_16 : decode cX4_init 16 = .ok (.new 7, 3) := by decide +kernel
theorem dX4_init_19 : decode cX4_init 19 = .ok (.dup, 1) := by decide +kernel
theorem dX4_init_20 : decode cX4_init 20 = .ok (.invokespecial 9, 3) := by decide +kernel
theorem dX4_init_23 : decode cX4_init 23 = .ok (.putfield 16, 3) := by decide +kernel
theorem dX4_init_26 : decode cX4_init 26 = .ok (.aload_n 0, 1) := by decide +kernel
theorem dX4_init_27 : decode cX4_init 27 = .ok (.new 19, 3) := by decide +kernel
theorem dX4_init_30 : decode cX4_init 30 = .ok (.dup, 1) := by decide +kernel
theorem dX4_init_31 : decode cX4_init 31 = .ok (.invokespecial 21, 3) := by decide +kernel
theorem dX4_init_34 : decode cX4_init 34 = .ok (.putfield 22, 3) := by decide +kernel
theorem dX4_init_37 : decode cX4_init 37 = .ok (.aload_n 0, 1) := by decide +kernel
theorem dX4_init_38 : decode cX4_init 38 = .ok (.new 26, 3) := by decide +kernel
theorem dX4_init_41 : decode cX4_init 41 = .ok (.dup, 1) := by decide +kernel
theorem dX4_init_42 : decode cX4_init 42 = .ok (.invokespecial 28, 3) := by decide +kernel
theorem dX4_init_45 : decode cX4_init 45 = .ok (.putfield 29, 3) := by decide +kernel
theorem dX4_init_48 : decode cX4_init 48 = .ok (.aload_n 0, 1) := by decide +kernel
theorem dX4_init_49 : decode cX4_init 49 = .ok (.new 33, 3) := by decide +kernel
theorem dX4_init_52 : decode cX4_init 52 = .ok (.dup, 1) := by decide +kernel
theorem dX4_init_53 : decode cX4_init 53 = .ok (.invokespecial 35, 3) := by decide +kernel
theorem dX4_init_56 : decode cX4_init 56 = .ok (.putfield 36, 3) := by decide +kernel
theorem dX4_init_59 : decode cX4_init 59 = .ok (.iconst 0, 1) := by decide +kernel
theorem dX4_init_60 : decode cX4_init 60 = .ok (.istore_n 1, 1) := by decide +kernel
theorem dX4_init_61 : decode cX4_init 61 = .ok (.iload_n 1, 1) := by decide +kernel
theorem dX4_init_62 : decode cX4_init 62 = .ok (.ldc 40, 2) := by decide +kernel
theorem dX4_init_64 : decode cX4_init 64 = .ok (.invokevirtual 42, 3) := by decide +kernel
theorem dX4_init_67 : decode cX4_init 67 = .ok (.if_icmp .ge 23, 3) := by decide +kernel
theorem dX4_init_70 : decode cX4_init 70 = .ok (.aload_n 0, 1) := by decide +kernel
theorem dX4_init_71 : decode cX4_init 71 = .ok (.getfield 22, 3) := by decide +kernel
theorem dX4_init_74 : decode cX4_init 74 = .ok (.ldc 40, 2) := by decide +kernel
theorem dX4_init_76 : decode cX4_init 76 = .ok (.iload_n 1, 1) := by decide +kernel
theorem dX4_init_77 : decode cX4_init 77 = .ok (.invokevirtual 48, 3) := by decide +kernel
theorem dX4_init_80 : decode cX4_init 80 = .ok (.invokevirtual 52, 3) := by decide +kernel
theorem dX4_init_83 : decode cX4_init 83 = .ok (.pop, 1) := by decide +kernel
theorem dX4_init_84 : decode cX4_init 84 = .ok (.iinc 1 1, 3) := by decide +kernel
theorem dX4_init_87 : decode cX4_init 87 = .ok (.goto (-26), 3) := by decide +kernel
theorem dX4_init_90 : decode cX4_init 90 = .ok (.aload_n 0, 1) := by decide +kernel
theorem dX4_init_91 : decode cX4_init 91 = .ok (.getfield 22, 3) := by decide +kernel
theorem dX4_init_94 : decode cX4_init 94 = .ok (.invokevirtual 56, 3) := by decide +kernel
theorem dX4_init_97 : decode cX4_init 97 = .ok (.bipush (-4), 2) := by decide +kernel
theorem dX4_init_99 : decode cX4_init 99 = .ok (.if_icmp .ne 7, 3) := by decide +kernel
theorem dX4_init_102 : decode cX4_init 102 = .ok (.aload_n 0, 1) := by decide +kernel
theorem dX4_init_103 : decode cX4_init 103 = .ok (.invokevirtual 59, 3) := by decide +kernel
theorem dX4_init_106 : decode cX4_init 106 = .ok (.aload_n 0, 1) := by decide +kernel
theorem dX4_init_107 : decode cX4_init 107 = .ok (.getfield 22, 3) := by decide +kernel
theorem dX4_init_110 : decode cX4_init 110 = .ok (.invokevirtual 62, 3) := by decide +kernel
theorem dX4_init_113 : decode cX4_init 113 = .ok (.return_, 1) := by decide +kernel
theorem dX4_append_0 : decode cX4_append 0 = .ok (.iload_n 1, 1) := by decide +kernel
theorem dX4_append_1 : decode cX4_append 1 = .ok (.bipush 32, 2) := by decide +kernel
theorem dX4_append_3 : decode cX4_append 3 = .ok (.if_icmp .lt 9, 3) := by decide +kernel
theorem dX4_append_6 : decode cX4_append 6 = .ok (.iload_n 1, 1) := by decide +kernel
theorem dX4_append_7 : decode cX4_append 7 = .ok (.bipush 126, 2) := by decide +kernel
theorem dX4_append_9 : decode cX4_append 9 = .ok (.if_icmp .le 5, 3) := by decide +kernel
theorem dX4_append_12 : decode cX4_append 12 = .ok (.iconst (-1), 1) := by decide +kernel
theorem dX4_append_13 : decode cX4_append 13 = .ok (.ireturn, 1) := by decide +kernel
theorem dX4_append_14 : decode cX4_append 14 = .ok (.aload_n 0, 1) := by decide +kernel
theorem dX4_append_15 : decode cX4_append 15 = .ok (.getfield 22, 3) := by decide +kernel
theorem dX4_append_18 : decode cX4_append 18 = .ok (.iload_n 1, 1) := by decide +kernel
theorem dX4_append_19 : decode cX4_append 19 = .ok (.i2c, 1) := by decide +kernel
theorem dX4_append_20 : decode cX4_append 20 = .ok (.invokevirtual 52, 3) := by decide +kernel
theorem dX4_append_23 : decode cX4_append 23 = .ok (.ifCond .eq 13, 3) := by decide +kernel
theorem dX4_append_26 : decode cX4_append 26 = .ok (.aload_n 0, 1) := by decide +kernel
theorem dX4_append_27 : decode cX4_append 27 = .ok (.getfield 22, 3) := by decide +kernel
theorem dX4_append_30 : decode cX4_append 30 = .ok (.invokevirtual 65, 3) := by decide +kernel
theorem dX4_append_33 : decode cX4_append 33 = .ok (.goto 5, 3) := by decide +kernel
theorem dX4_append_36 : decode cX4_append 36 = .ok (.bipush (-2), 2) := by decide +kernel
theorem dX4_append_38 : decode cX4_append 38 = .ok (.ireturn, 1) := by decide +kernel
theorem dX4_clearText_0 : decode cX4_clearText 0 = .ok (.aload_n 0, 1) := by decide +kernel
theorem dX4_clearText_1 : decode cX4_clearText 1 = .ok (.getfield 22, 3) := by decide +kernel
theorem dX4_clearText_4 : decode cX4_clearText 4 = .ok (.invokevirtual 65, 3) := by decide +kernel
theorem dX4_clearText_7 : decode cX4_clearText 7 = .ok (.istore_n 1, 1) := by decide +kernel
theorem dX4_clearText_8 : decode cX4_clearText 8 = .ok (.aload_n 0, 1) := by decide +kernel
theorem dX4_clearText_9 : decode cX4_clearText 9 = .ok (.getfield 22, 3) := by decide +kernel
theorem dX4_clearText_12 : decode cX4_clearText 12 = .ok (.invokevirtual 62, 3) := by decide +kernel
theorem dX4_clearText_15 : decode cX4_clearText 15 = .ok (.iload_n 1, 1) := by decide +kernel
theorem dX4_clearText_16 : decode cX4_clearText 16 = .ok (.ireturn, 1) := by decide +kernel
theorem dX4_syntaxError_0 : decode cX4_syntaxError 0 = .ok (.aload_n 0, 1) := by decide +kernel
theorem dX4_syntaxError_1 : decode cX4_syntaxError 1 = .ok (.getfield 22, 3) := by decide +kernel
theorem dX4_syntaxError_4 : decode cX4_syntaxError 4 = .ok (.invokevirtual 56, 3) := by decide +kernel
theorem dX4_syntaxError_7 : decode cX4_syntaxError 7 = .ok (.ireturn, 1) := by decide +kernel
theorem dX4_load_0 : decode cX4_load 0 = .ok (.aload_n 0, 1) := by decide +kernel
theorem dX4_load_1 : decode cX4_load 1 = .ok (.getfield 22, 3) := by decide +kernel
theorem dX4_load_4 : decode cX4_load 4 = .ok (.invokevirtual 56, 3) := by decide +kernel
theorem dX4_load_7 : decode cX4_load 7 = .ok (.bipush (-4), 2) := by decide +kernel
theorem dX4_load_9 : decode cX4_load 9 = .ok (.if_icmp .eq 6, 3) := by decide +kernel
theorem dX4_load_12 : decode cX4_load 12 = .ok (.bipush (-3), 2) := by decide +kernel
theorem dX4_load_14 : decode cX4_load 14 = .ok (.ireturn, 1) := by decide +kernel
theorem dX4_load_15 : decode cX4_load 15 = .ok (.aload_n 0, 1) := by decide +kernel
theorem dX4_load_16 : decode cX4_load 16 = .ok (.invokevirtual 59, 3) := by decide +kernel
theorem dX4_load_19 : decode cX4_load 19 = .ok (.aload_n 0, 1) := by decide +kernel
theorem dX4_load_20 : decode cX4_load 20 = .ok (.getfield 29, 3) := by decide +kernel
theorem dX4_load_23 : decode cX4_load 23 = .ok (.invokevirtual 66, 3) := by decide +kernel
theorem dX4_load_26 : decode cX4_load 26 = .ok (.aload_n 0, 1) := by decide +kernel
theorem dX4_load_27 : decode cX4_load 27 = .ok (.getfield 10, 3) := by decide +kernel
theorem dX4_load_30 : decode cX4_load 30 = .ok (.invokevirtual 69, 3) := by decide +kernel
theorem dX4_load_33 : decode cX4_load 33 = .ok (.aload_n 0, 1) := by decide +kernel
theorem dX4_load_34 : decode cX4_load 34 = .ok (.getfield 16, 3) := by decide +kernel
theorem dX4_load_37 : decode cX4_load 37 = .ok (.invokevirtual 69, 3) := by decide +kernel
theorem dX4_load_40 : decode cX4_load 40 = .ok (.iadd, 1) := by decide +kernel
theorem dX4_load_41 : decode cX4_load 41 = .ok (.ireturn, 1) := by decide +kernel
theorem dX4_takeDrafts_0 : decode cX4_takeDrafts 0 = .ok (.aload_n 0, 1) := by decide +kernel
theorem dX4_takeDrafts_1 : decode cX4_takeDrafts 1 = .ok (.getfield 10, 3) := by decide +kernel
theorem dX4_takeDrafts_4 : decode cX4_takeDrafts 4 = .ok (.aload_n 0, 1) := by decide +kernel
theorem dX4_takeDrafts_5 : decode cX4_takeDrafts 5 = .ok (.getfield 22, 3) := by decide +kernel
theorem dX4_takeDrafts_8 : decode cX4_takeDrafts 8 = .ok (.invokevirtual 72, 3) := by decide +kernel
theorem dX4_takeDrafts_11 : decode cX4_takeDrafts 11 = .ok (.invokevirtual 76, 3) := by decide +kernel
theorem dX4_takeDrafts_14 : decode cX4_takeDrafts 14 = .ok (.aload_n 0, 1) := by decide +kernel
theorem dX4_takeDrafts_15 : decode cX4_takeDrafts 15 = .ok (.getfield 16, 3) := by decide +kernel
theorem dX4_takeDrafts_18 : decode cX4_takeDrafts 18 = .ok (.aload_n 0, 1) := by decide +kernel
theorem dX4_takeDrafts_19 : decode cX4_takeDrafts 19 = .ok (.getfield 22, 3) := by decide +kernel
theorem dX4_takeDrafts_22 : decode cX4_takeDrafts 22 = .ok (.invokevirtual 80, 3) := by decide +kernel
theorem dX4_takeDrafts_25 : decode cX4_takeDrafts 25 = .ok (.invokevirtual 76, 3) := by decide +kernel
theorem dX4_takeDrafts_28 : decode cX4_takeDrafts 28 = .ok (.return_, 1) := by decide +kernel
theorem dX4_addRule_0 : decode cX4_addRule 0 = .ok (.iload_n 1, 1) := by decide +kernel
theorem dX4_addRule_1 : decode cX4_addRule 1 = .ok (.invokestatic 83, 3) := by decide +kernel
theorem dX4_addRule_4 : decode cX4_addRule 4 = .ok (.ifCond .eq 10, 3) := by decide +kernel
theorem dX4_addRule_7 : decode cX4_addRule 7 = .ok (.iload_n 3, 1) := by decide +kernel
theorem dX4_addRule_8 : decode cX4_addRule 8 = .ok (.invokestatic 87, 3) := by decide +kernel
theorem dX4_addRule_11 : decode cX4_addRule 11 = .ok (.ifCond .ne 5, 3) := by decide +kernel
theorem dX4_addRule_14 : decode cX4_addRule 14 = .ok (.iconst (-1), 1) := by decide +kernel
theorem dX4_addRule_15 : decode cX4_addRule 15 = .ok (.ireturn, 1) := by decide +kernel
theorem dX4_addRule_16 : decode cX4_addRule 16 = .ok (.aload_n 0, 1) := by decide +kernel
theorem dX4_addRule_17 : decode cX4_addRule 17 = .ok (.iload_n 1, 1) := by decide +kernel
theorem dX4_addRule_18 : decode cX4_addRule 18 = .ok (.invokevirtual 90, 3) := by decide +kernel
theorem dX4_addRule_21 : decode cX4_addRule 21 = .ok (.astore 4, 2) := by decide +kernel
theorem dX4_addRule_23 : decode cX4_addRule 23 = .ok (.iload_n 2, 1) := by decide +kernel
theorem dX4_addRule_24 : decode cX4_addRule 24 = .ok (.ifCond .lt 12, 3) := by decide +kernel
theorem dX4_addRule_27 : decode cX4_addRule 27 = .ok (.iload_n 2, 1) := by decide +kernel
theorem dX4_addRule_28 : decode cX4_addRule 28 = .ok (.aload 4, 2) := by decide +kernel
theorem dX4_addRule_30 : decode cX4_addRule 30 = .ok (.invokevirtual 69, 3) := by decide +kernel
theorem dX4_addRule_33 : decode cX4_addRule 33 = .ok (.if_icmp .le 5, 3) := by decide +kernel
theorem dX4_addRule_36 : decode cX4_addRule 36 = .ok (.iconst (-1), 1) := by decide +kernel
theorem dX4_addRule_37 : decode cX4_addRule 37 = .ok (.ireturn, 1) := by decide +kernel
theorem dX4_addRule_38 : decode cX4_addRule 38 = .ok (.aload 4, 2) := by decide +kernel
theorem dX4_addRule_40 : decode cX4_addRule 40 = .ok (.invokevirtual 69, 3) := by decide +kernel
theorem dX4_addRule_43 : decode cX4_addRule 43 = .ok (.bipush 8, 2) := by decide +kernel
theorem dX4_addRule_45 : decode cX4_addRule 45 = .ok (.if_icmp .lt 6, 3) := by decide +kernel
theorem dX4_addRule_48 : decode cX4_addRule 48 = .ok (.bipush (-2), 2) := by decide +kernel
theorem dX4_addRule_50 : decode cX4_addRule 50 = .ok (.ireturn, 1) := by decide +kernel
theorem dX4_addRule_51 : decode cX4_addRule 51 = .ok (.aload_n 0, 1) := by decide +kernel
theorem dX4_addRule_52 : decode cX4_addRule 52 = .ok (.getfield 29, 3) := by decide +kernel
theorem dX4_addRule_55 : decode cX4_addRule 55 = .ok (.iload_n 1, 1) := by decide +kernel
theorem dX4_addRule_56 : decode cX4_addRule 56 = .ok (.aload 4, 2) := by decide +kernel
theorem dX4_addRule_58 : decode cX4_addRule 58 = .ok (.invokevirtual 94, 3) := by decide +kernel
theorem dX4_addRule_61 : decode cX4_addRule 61 = .ok (.aload 4, 2) := by decide +kernel
theorem dX4_addRule_63 : decode cX4_addRule 63 = .ok (.iload_n 2, 1) := by decide +kernel
theorem dX4_addRule_64 : decode cX4_addRule 64 = .ok (.iload_n 3, 1) := by decide +kernel
theorem dX4_addRule_65 : decode cX4_addRule 65 = .ok (.invokevirtual 98, 3) := by decide +kernel
theorem dX4_addRule_68 : decode cX4_addRule 68 = .ok (.aload 4, 2) := by decide +kernel
theorem dX4_addRule_70 : decode cX4_addRule 70 = .ok (.invokevirtual 69, 3) := by decide +kernel
theorem dX4_addRule_73 : decode cX4_addRule 73 = .ok (.ireturn, 1) := by decide +kernel
theorem dX4_removeRule_0 : decode cX4_removeRule 0 = .ok (.aload_n 0, 1) := by decide +kernel
theorem dX4_removeRule_1 : decode cX4_removeRule 1 = .ok (.iload_n 1, 1) := by decide +kernel
theorem dX4_removeRule_2 : decode cX4_removeRule 2 = .ok (.iload_n 2, 1) := by decide +kernel
theorem dX4_removeRule_3 : decode cX4_removeRule 3 = .ok (.invokevirtual 102, 3) := by decide +kernel
theorem dX4_removeRule_6 : decode cX4_removeRule 6 = .ok (.ifCond .ne 5, 3) := by decide +kernel
theorem dX4_removeRule_9 : decode cX4_removeRule 9 = .ok (.iconst (-1), 1) := by decide +kernel
theorem dX4_removeRule_10 : decode cX4_removeRule 10 = .ok (.ireturn, 1) := by decide +kernel
theorem dX4_removeRule_11 : decode cX4_removeRule 11 = .ok (.aload_n 0, 1) := by decide +kernel
theorem dX4_removeRule_12 : decode cX4_removeRule 12 = .ok (.iload_n 1, 1) := by decide +kernel
theorem dX4_removeRule_13 : decode cX4_removeRule 13 = .ok (.invokevirtual 90, 3) := by decide +kernel
theorem dX4_removeRule_16 : decode cX4_removeRule 16 = .ok (.astore_n 3, 1) := by decide +kernel
theorem dX4_removeRule_17 : decode cX4_removeRule 17 = .ok (.aload_n 0, 1) := by decide +kernel
theorem dX4_removeRule_18 : decode cX4_removeRule 18 = .ok (.getfield 29, 3) := by decide +kernel
theorem dX4_removeRule_21 : decode cX4_removeRule 21 = .ok (.iload_n 1, 1) := by decide +kernel
theorem dX4_removeRule_22 : decode cX4_removeRule 22 = .ok (.aload_n 3, 1) := by decide +kernel
theorem dX4_removeRule_23 : decode cX4_removeRule 23 = .ok (.invokevirtual 94, 3) := by decide +kernel
theorem dX4_removeRule_26 : decode cX4_removeRule 26 = .ok (.aload_n 3, 1) := by decide +kernel
theorem dX4_removeRule_27 : decode cX4_removeRule 27 = .ok (.iload_n 2, 1) := by decide +kernel
theorem dX4_removeRule_28 : decode cX4_removeRule 28 = .ok (.invokevirtual 106, 3) := by decide +kernel
theorem dX4_removeRule_31 : decode cX4_removeRule 31 = .ok (.aload_n 3, 1) := by decide +kernel
theorem dX4_removeRule_32 : decode cX4_removeRule 32 = .ok (.invokevirtual 69, 3) := by decide +kernel
theorem dX4_removeRule_35 : decode cX4_removeRule 35 = .ok (.ireturn, 1) := by decide +kernel
theorem dX4_moveRule_0 : decode cX4_moveRule 0 = .ok (.aload_n 0, 1) := by decide +kernel
theorem dX4_moveRule_1 : decode cX4_moveRule 1 = .ok (.iload_n 1, 1) := by decide +kernel
theorem dX4_moveRule_2 : decode cX4_moveRule 2 = .ok (.iload_n 2, 1) := by decide +kernel
theorem dX4_moveRule_3 : decode cX4_moveRule 3 = .ok (.invokevirtual 102, 3) := by decide +kernel
theorem dX4_moveRule_6 : decode cX4_moveRule 6 = .ok (.ifCond .eq 12, 3) := by decide +kernel
theorem dX4_moveRule_9 : decode cX4_moveRule 9 = .ok (.aload_n 0, 1) := by decide +kernel
theorem dX4_moveRule_10 : decode cX4_moveRule 10 = .ok (.iload_n 1, 1) := by decide +kernel
theorem dX4_moveRule_11 : decode cX4_moveRule 11 = .ok (.iload_n 3, 1) := by decide +kernel
theorem dX4_moveRule_12 : decode cX4_moveRule 12 = .ok (.invokevirtual 102, 3) := by decide +kernel
theorem dX4_moveRule_15 : decode cX4_moveRule 15 = .ok (.ifCond .ne 5, 3) := by decide +kernel
theorem dX4_moveRule_18 : decode cX4_moveRule 18 = .ok (.iconst (-1), 1) := by decide +kernel
theorem dX4_moveRule_19 : decode cX4_moveRule 19 = .ok (.ireturn, 1) := by decide +kernel
theorem dX4_moveRule_20 : decode cX4_moveRule 20 = .ok (.iload_n 2, 1) := by decide +kernel
theorem dX4_moveRule_21 : decode cX4_moveRule 21 = .ok (.iload_n 3, 1) := by decide +kernel
theorem dX4_moveRule_22 : decode cX4_moveRule 22 = .ok (.if_icmp .ne 6, 3) := by decide +kernel
theorem dX4_moveRule_25 : decode cX4_moveRule 25 = .ok (.bipush (-3), 2) := by decide +kernel
theorem dX4_moveRule_27 : decode cX4_moveRule 27 = .ok (.ireturn, 1) := by decide +kernel
theorem dX4_moveRule_28 : decode cX4_moveRule 28 = .ok (.aload_n 0, 1) := by decide +kernel
theorem dX4_moveRule_29 : decode cX4_moveRule 29 = .ok (.iload_n 1, 1) := by decide +kernel
theorem dX4_moveRule_30 : decode cX4_moveRule 30 = .ok (.invokevirtual 90, 3) := by decide +kernel
theorem dX4_moveRule_33 : decode cX4_moveRule 33 = .ok (.astore 4, 2) := by decide +kernel
theorem dX4_moveRule_35 : decode cX4_moveRule 35 = .ok (.aload_n 0, 1) := by decide +kernel
theorem dX4_moveRule_36 : decode cX4_moveRule 36 = .ok (.getfield 29, 3) := by decide +kernel
theorem dX4_moveRule_39 : decode cX4_moveRule 39 = .ok (.iload_n 1, 1) := by decide +kernel
theorem dX4_moveRule_40 : decode cX4_moveRule 40 = .ok (.aload 4, 2) := by decide +kernel
theorem dX4_moveRule_42 : decode cX4_moveRule 42 = .ok (.invokevirtual 94, 3) := by decide +kernel
theorem dX4_moveRule_45 : decode cX4_moveRule 45 = .ok (.aload 4, 2) := by decide +kernel
theorem dX4_moveRule_47 : decode cX4_moveRule 47 = .ok (.iload_n 2, 1) := by decide +kernel
theorem dX4_moveRule_48 : decode cX4_moveRule 48 = .ok (.iload_n 3, 1) := by decide +kernel
theorem dX4_moveRule_49 : decode cX4_moveRule 49 = .ok (.invokevirtual 110, 3) := by decide +kernel
theorem dX4_moveRule_52 : decode cX4_moveRule 52 = .ok (.aload 4, 2) := by decide +kernel
theorem dX4_moveRule_54 : decode cX4_moveRule 54 = .ok (.iload_n 3, 1) := by decide +kernel
theorem dX4_moveRule_55 : decode cX4_moveRule 55 = .ok (.invokevirtual 113, 3) := by decide +kernel
theorem dX4_moveRule_58 : decode cX4_moveRule 58 = .ok (.ireturn, 1) := by decide +kernel
theorem dX4_setAlgorithm_0 : decode cX4_setAlgorithm 0 = .ok (.iload_n 1, 1) := by decide +kernel
theorem dX4_setAlgorithm_1 : decode cX4_setAlgorithm 1 = .ok (.invokestatic 83, 3) := by decide +kernel
theorem dX4_setAlgorithm_4 : decode cX4_setAlgorithm 4 = .ok (.ifCond .eq 12, 3) := by decide +kernel
theorem dX4_setAlgorithm_7 : decode cX4_setAlgorithm 7 = .ok (.iload_n 2, 1) := by decide +kernel
theorem dX4_setAlgorithm_8 : decode cX4_setAlgorithm 8 = .ok (.ifCond .lt 8, 3) := by decide +kernel
theorem dX4_setAlgorithm_11 : decode cX4_setAlgorithm 11 = .ok (.iload_n 2, 1) := by decide +kernel
theorem dX4_setAlgorithm_12 : decode cX4_setAlgorithm 12 = .ok (.iconst 4, 1) := by decide +kernel
theorem dX4_setAlgorithm_13 : decode cX4_setAlgorithm 13 = .ok (.if_icmp .le 5, 3) := by decide +kernel
theorem dX4_setAlgorithm_16 : decode cX4_setAlgorithm 16 = .ok (.iconst (-1), 1) := by decide +kernel
theorem dX4_setAlgorithm_17 : decode cX4_setAlgorithm 17 = .ok (.ireturn, 1) := by decide +kernel
theorem dX4_setAlgorithm_18 : decode cX4_setAlgorithm 18 = .ok (.aload_n 0, 1) := by decide +kernel
theorem dX4_setAlgorithm_19 : decode cX4_setAlgorithm 19 = .ok (.iload_n 1, 1) := by decide +kernel
theorem dX4_setAlgorithm_20 : decode cX4_setAlgorithm 20 = .ok (.invokevirtual 90, 3) := by decide +kernel
theorem dX4_setAlgorithm_23 : decode cX4_setAlgorithm 23 = .ok (.astore_n 3, 1) := by decide +kernel
theorem dX4_setAlgorithm_24 : decode cX4_setAlgorithm 24 = .ok (.aload_n 3, 1) := by decide +kernel
theorem dX4_setAlgorithm_25 : decode cX4_setAlgorithm 25 = .ok (.invokevirtual 117, 3) := by decide +kernel
theorem dX4_setAlgorithm_28 : decode cX4_setAlgorithm 28 = .ok (.istore 4, 2) := by decide +kernel
theorem dX4_setAlgorithm_30 : decode cX4_setAlgorithm 30 = .ok (.iload 4, 2) := by decide +kernel
theorem dX4_setAlgorithm_32 : decode cX4_setAlgorithm 32 = .ok (.iload_n 2, 1) := by decide +kernel
theorem dX4_setAlgorithm_33 : decode cX4_setAlgorithm 33 = .ok (.if_icmp .ne 6, 3) := by decide +kernel
theorem dX4_setAlgorithm_36 : decode cX4_setAlgorithm 36 = .ok (.bipush (-3), 2) := by decide +kernel
theorem dX4_setAlgorithm_38 : decode cX4_setAlgorithm 38 = .ok (.ireturn, 1) := by decide +kernel
theorem dX4_setAlgorithm_39 : decode cX4_setAlgorithm 39 = .ok (.aload_n 0, 1) := by decide +kernel
theorem dX4_setAlgorithm_40 : decode cX4_setAlgorithm 40 = .ok (.getfield 29, 3) := by decide +kernel
theorem dX4_setAlgorithm_43 : decode cX4_setAlgorithm 43 = .ok (.iload_n 1, 1) := by decide +kernel
theorem dX4_setAlgorithm_44 : decode cX4_setAlgorithm 44 = .ok (.aload_n 3, 1) := by decide +kernel
theorem dX4_setAlgorithm_45 : decode cX4_setAlgorithm 45 = .ok (.invokevirtual 94, 3) := by decide +kernel
theorem dX4_setAlgorithm_48 : decode cX4_setAlgorithm 48 = .ok (.aload_n 3, 1) := by decide +kernel
theorem dX4_setAlgorithm_49 : decode cX4_setAlgorithm 49 = .ok (.iload_n 2, 1) := by decide +kernel
theorem dX4_setAlgorithm_50 : decode cX4_setAlgorithm 50 = .ok (.invokevirtual 120, 3) := by decide +kernel
theorem dX4_setAlgorithm_53 : decode cX4_setAlgorithm 53 = .ok (.iload 4, 2) := by decide +kernel
theorem dX4_setAlgorithm_55 : decode cX4_setAlgorithm 55 = .ok (.ireturn, 1) := by decide +kernel
theorem dX4_setTarget_0 : decode cX4_setTarget 0 = .ok (.aload_n 0, 1) := by decide +kernel
theorem dX4_setTarget_1 : decode cX4_setTarget 1 = .ok (.iload_n 1, 1) := by decide +kernel
theorem dX4_setTarget_2 : decode cX4_setTarget 2 = .ok (.iload_n 2, 1) := by decide +kernel
theorem dX4_setTarget_3 : decode cX4_setTarget 3 = .ok (.invokevirtual 102, 3) := by decide +kernel
theorem dX4_setTarget_6 : decode cX4_setTarget 6 = .ok (.ifCond .eq 19, 3) := by decide +kernel
theorem dX4_setTarget_9 : decode cX4_setTarget 9 = .ok (.iload_n 3, 1) := by decide +kernel
theorem dX4_setTarget_10 : decode cX4_setTarget 10 = .ok (.invokestatic 123, 3) := by decide +kernel
theorem dX4_setTarget_13 : decode cX4_setTarget 13 = .ok (.ifCond .eq 12, 3) := by decide +kernel
theorem dX4_setTarget_16 : decode cX4_setTarget 16 = .ok (.iload_n 3, 1) := by decide +kernel
theorem dX4_setTarget_17 : decode cX4_setTarget 17 = .ok (.iload 4, 2) := by decide +kernel
theorem dX4_setTarget_19 : decode cX4_setTarget 19 = .ok (.invokestatic 126, 3) := by decide +kernel
theorem dX4_setTarget_22 : decode cX4_setTarget 22 = .ok (.ifCond .ne 5, 3) := by decide +kernel
theorem dX4_setTarget_25 : decode cX4_setTarget 25 = .ok (.iconst (-1), 1) := by decide +kernel
theorem dX4_setTarget_26 : decode cX4_setTarget 26 = .ok (.ireturn, 1) := by decide +kernel
theorem dX4_setTarget_27 : decode cX4_setTarget 27 = .ok (.aload_n 0, 1) := by decide +kernel
theorem dX4_setTarget_28 : decode cX4_setTarget 28 = .ok (.iload_n 1, 1) := by decide +kernel
theorem dX4_setTarget_29 : decode cX4_setTarget 29 = .ok (.invokevirtual 90, 3) := by decide +kernel
theorem dX4_setTarget_32 : decode cX4_setTarget 32 = .ok (.astore 5, 2) := by decide +kernel
theorem dX4_setTarget_34 : decode cX4_setTarget 34 = .ok (.aload 5, 2) := by decide +kernel
theorem dX4_setTarget_36 : decode cX4_setTarget 36 = .ok (.iload_n 2, 1) := by decide +kernel
theorem dX4_setTarget_37 : decode cX4_setTarget 37 = .ok (.iload_n 3, 1) := by decide +kernel
theorem dX4_setTarget_38 : decode cX4_setTarget 38 = .ok (.invokevirtual 129, 3) := by decide +kernel
theorem dX4_setTarget_41 : decode cX4_setTarget 41 = .ok (.istore 6, 2) := by decide +kernel
theorem dX4_setTarget_43 : decode cX4_setTarget 43 = .ok (.iload 6, 2) := by decide +kernel
theorem dX4_setTarget_45 : decode cX4_setTarget 45 = .ok (.iload 4, 2) := by decide +kernel
theorem dX4_setTarget_47 : decode cX4_setTarget 47 = .ok (.if_icmp .ne 6, 3) := by decide +kernel
theorem dX4_setTarget_50 : decode cX4_setTarget 50 = .ok (.bipush (-3), 2) := by decide +kernel
theorem dX4_setTarget_52 : decode cX4_setTarget 52 = .ok (.ireturn, 1) := by decide +kernel
theorem dX4_setTarget_53 : decode cX4_setTarget 53 = .ok (.aload_n 0, 1) := by decide +kernel
theorem dX4_setTarget_54 : decode cX4_setTarget 54 = .ok (.getfield 29, 3) := by decide +kernel
theorem dX4_setTarget_57 : decode cX4_setTarget 57 = .ok (.iload_n 1, 1) := by decide +kernel
theorem dX4_setTarget_58 : decode cX4_setTarget 58 = .ok (.aload 5, 2) := by decide +kernel
theorem dX4_setTarget_60 : decode cX4_setTarget 60 = .ok (.invokevirtual 94, 3) := by decide +kernel
theorem dX4_setTarget_63 : decode cX4_setTarget 63 = .ok (.aload 5, 2) := by decide +kernel
theorem dX4_setTarget_65 : decode cX4_setTarget 65 = .ok (.iload_n 2, 1) := by decide +kernel
theorem dX4_setTarget_66 : decode cX4_setTarget 66 = .ok (.iload_n 3, 1) := by decide +kernel
theorem dX4_setTarget_67 : decode cX4_setTarget 67 = .ok (.iload 4, 2) := by decide +kernel
theorem dX4_setTarget_69 : decode cX4_setTarget 69 = .ok (.invokevirtual 133, 3) := by decide +kernel
theorem dX4_setTarget_72 : decode cX4_setTarget 72 = .ok (.iload 6, 2) := by decide +kernel
theorem dX4_setTarget_74 : decode cX4_setTarget 74 = .ok (.ireturn, 1) := by decide +kernel
theorem dX4_flipEffect_0 : decode cX4_flipEffect 0 = .ok (.aload_n 0, 1) := by decide +kernel
theorem dX4_flipEffect_1 : decode cX4_flipEffect 1 = .ok (.iload_n 1, 1) := by decide +kernel
theorem dX4_flipEffect_2 : decode cX4_flipEffect 2 = .ok (.iload_n 2, 1) := by decide +kernel
theorem dX4_flipEffect_3 : decode cX4_flipEffect 3 = .ok (.invokevirtual 102, 3) := by decide +kernel
theorem dX4_flipEffect_6 : decode cX4_flipEffect 6 = .ok (.ifCond .ne 5, 3) := by decide +kernel
theorem dX4_flipEffect_9 : decode cX4_flipEffect 9 = .ok (.iconst (-1), 1) := by decide +kernel
theorem dX4_flipEffect_10 : decode cX4_flipEffect 10 = .ok (.ireturn, 1) := by decide +kernel
theorem dX4_flipEffect_11 : decode cX4_flipEffect 11 = .ok (.aload_n 0, 1) := by decide +kernel
theorem dX4_flipEffect_12 : decode cX4_flipEffect 12 = .ok (.iload_n 1, 1) := by decide +kernel
theorem dX4_flipEffect_13 : decode cX4_flipEffect 13 = .ok (.invokevirtual 90, 3) := by decide +kernel
theorem dX4_flipEffect_16 : decode cX4_flipEffect 16 = .ok (.astore_n 3, 1) := by decide +kernel
theorem dX4_flipEffect_17 : decode cX4_flipEffect 17 = .ok (.aload_n 0, 1) := by decide +kernel
theorem dX4_flipEffect_18 : decode cX4_flipEffect 18 = .ok (.getfield 29, 3) := by decide +kernel
theorem dX4_flipEffect_21 : decode cX4_flipEffect 21 = .ok (.iload_n 1, 1) := by decide +kernel
theorem dX4_flipEffect_22 : decode cX4_flipEffect 22 = .ok (.aload_n 3, 1) := by decide +kernel
theorem dX4_flipEffect_23 : decode cX4_flipEffect 23 = .ok (.invokevirtual 94, 3) := by decide +kernel
theorem dX4_flipEffect_26 : decode cX4_flipEffect 26 = .ok (.aload_n 3, 1) := by decide +kernel
theorem dX4_flipEffect_27 : decode cX4_flipEffect 27 = .ok (.iload_n 2, 1) := by decide +kernel
theorem dX4_flipEffect_28 : decode cX4_flipEffect 28 = .ok (.invokevirtual 137, 3) := by decide +kernel
theorem dX4_flipEffect_31 : decode cX4_flipEffect 31 = .ok (.aload_n 3, 1) := by decide +kernel
theorem dX4_flipEffect_32 : decode cX4_flipEffect 32 = .ok (.iload_n 2, 1) := by decide +kernel
theorem dX4_flipEffect_33 : decode cX4_flipEffect 33 = .ok (.invokevirtual 113, 3) := by decide +kernel
theorem dX4_flipEffect_36 : decode cX4_flipEffect 36 = .ok (.ireturn, 1) := by decide +kernel
theorem dX4_copyOldToNew_0 : decode cX4_copyOldToNew 0 = .ok (.aload_n 0, 1) := by decide +kernel
theorem dX4_copyOldToNew_1 : decode cX4_copyOldToNew 1 = .ok (.getfield 29, 3) := by decide +kernel
theorem dX4_copyOldToNew_4 : decode cX4_copyOldToNew 4 = .ok (.iconst 1, 1) := by decide +kernel
theorem dX4_copyOldToNew_5 : decode cX4_copyOldToNew 5 = .ok (.aload_n 0, 1) := by decide +kernel
theorem dX4_copyOldToNew_6 : decode cX4_copyOldToNew 6 = .ok (.getfield 16, 3) := by decide +kernel
theorem dX4_copyOldToNew_9 : decode cX4_copyOldToNew 9 = .ok (.invokevirtual 94, 3) := by decide +kernel
theorem dX4_copyOldToNew_12 : decode cX4_copyOldToNew 12 = .ok (.aload_n 0, 1) := by decide +kernel
theorem dX4_copyOldToNew_13 : decode cX4_copyOldToNew 13 = .ok (.getfield 16, 3) := by decide +kernel
theorem dX4_copyOldToNew_16 : decode cX4_copyOldToNew 16 = .ok (.aload_n 0, 1) := by decide +kernel
theorem dX4_copyOldToNew_17 : decode cX4_copyOldToNew 17 = .ok (.getfield 10, 3) := by decide +kernel
theorem dX4_copyOldToNew_20 : decode cX4_copyOldToNew 20 = .ok (.invokevirtual 76, 3) := by decide +kernel
theorem dX4_copyOldToNew_23 : decode cX4_copyOldToNew 23 = .ok (.aload_n 0, 1) := by decide +kernel
theorem dX4_copyOldToNew_24 : decode cX4_copyOldToNew 24 = .ok (.getfield 16, 3) := by decide +kernel
theorem dX4_copyOldToNew_27 : decode cX4_copyOldToNew 27 = .ok (.invokevirtual 69, 3) := by decide +kernel
theorem dX4_copyOldToNew_30 : decode cX4_copyOldToNew 30 = .ok (.ireturn, 1) := by decide +kernel
theorem dX4_undo_0 : decode cX4_undo 0 = .ok (.aload_n 0, 1) := by decide +kernel
theorem dX4_undo_1 : decode cX4_undo 1 = .ok (.getfield 29, 3) := by decide +kernel
theorem dX4_undo_4 : decode cX4_undo 4 = .ok (.invokevirtual 140, 3) := by decide +kernel
theorem dX4_undo_7 : decode cX4_undo 7 = .ok (.ifCond .ne 6, 3) := by decide +kernel
theorem dX4_undo_10 : decode cX4_undo 10 = .ok (.bipush (-3), 2) := by decide +kernel
theorem dX4_undo_12 : decode cX4_undo 12 = .ok (.ireturn, 1) := by decide +kernel
theorem dX4_undo_13 : decode cX4_undo 13 = .ok (.aload_n 0, 1) := by decide +kernel
theorem dX4_undo_14 : decode cX4_undo 14 = .ok (.getfield 29, 3) := by decide +kernel
theorem dX4_undo_17 : decode cX4_undo 17 = .ok (.aload_n 0, 1) := by decide +kernel
theorem dX4_undo_18 : decode cX4_undo 18 = .ok (.aload_n 0, 1) := by decide +kernel
theorem dX4_undo_19 : decode cX4_undo 19 = .ok (.getfield 29, 3) := by decide +kernel
theorem dX4_undo_22 : decode cX4_undo 22 = .ok (.invokevirtual 141, 3) := by decide +kernel
theorem dX4_undo_25 : decode cX4_undo 25 = .ok (.invokevirtual 90, 3) := by decide +kernel
theorem dX4_undo_28 : decode cX4_undo 28 = .ok (.invokevirtual 144, 3) := by decide +kernel
theorem dX4_undo_31 : decode cX4_undo 31 = .ok (.aload_n 0, 1) := by decide +kernel
theorem dX4_undo_32 : decode cX4_undo 32 = .ok (.getfield 29, 3) := by decide +kernel
theorem dX4_undo_35 : decode cX4_undo 35 = .ok (.invokevirtual 140, 3) := by decide +kernel
theorem dX4_undo_38 : decode cX4_undo 38 = .ok (.ireturn, 1) := by decide +kernel
theorem dX4_ruleCount_0 : decode cX4_ruleCount 0 = .ok (.iload_n 1, 1) := by decide +kernel
theorem dX4_ruleCount_1 : decode cX4_ruleCount 1 = .ok (.invokestatic 83, 3) := by decide +kernel
theorem dX4_ruleCount_4 : decode cX4_ruleCount 4 = .ok (.ifCond .eq 14, 3) := by decide +kernel
theorem dX4_ruleCount_7 : decode cX4_ruleCount 7 = .ok (.aload_n 0, 1) := by decide +kernel
theorem dX4_ruleCount_8 : decode cX4_ruleCount 8 = .ok (.iload_n 1, 1) := by decide +kernel
theorem dX4_ruleCount_9 : decode cX4_ruleCount 9 = .ok (.invokevirtual 90, 3) := by decide +kernel
theorem dX4_ruleCount_12 : decode cX4_ruleCount 12 = .ok (.invokevirtual 69, 3) := by decide +kernel
theorem dX4_ruleCount_15 : decode cX4_ruleCount 15 = .ok (.goto 4, 3) := by decide +kernel
theorem dX4_ruleCount_18 : decode cX4_ruleCount 18 = .ok (.iconst (-1), 1) := by decide +kernel
theorem dX4_ruleCount_19 : decode cX4_ruleCount 19 = .ok (.ireturn, 1) := by decide +kernel
theorem dX4_effectOf_0 : decode cX4_effectOf 0 = .ok (.aload_n 0, 1) := by decide +kernel
theorem dX4_effectOf_1 : decode cX4_effectOf 1 = .ok (.iload_n 1, 1) := by decide +kernel
theorem dX4_effectOf_2 : decode cX4_effectOf 2 = .ok (.iload_n 2, 1) := by decide +kernel
theorem dX4_effectOf_3 : decode cX4_effectOf 3 = .ok (.invokevirtual 102, 3) := by decide +kernel
theorem dX4_effectOf_6 : decode cX4_effectOf 6 = .ok (.ifCond .eq 15, 3) := by decide +kernel
theorem dX4_effectOf_9 : decode cX4_effectOf 9 = .ok (.aload_n 0, 1) := by decide +kernel
theorem dX4_effectOf_10 : decode cX4_effectOf 10 = .ok (.iload_n 1, 1) := by decide +kernel
theorem dX4_effectOf_11 : decode cX4_effectOf 11 = .ok (.invokevirtual 90, 3) := by decide +kernel
theorem dX4_effectOf_14 : decode cX4_effectOf 14 = .ok (.iload_n 2, 1) := by decide +kernel
theorem dX4_effectOf_15 : decode cX4_effectOf 15 = .ok (.invokevirtual 113, 3) := by decide +kernel
theorem dX4_effectOf_18 : decode cX4_effectOf 18 = .ok (.goto 4, 3) := by decide +kernel
theorem dX4_effectOf_21 : decode cX4_effectOf 21 = .ok (.iconst (-1), 1) := by decide +kernel
theorem dX4_effectOf_22 : decode cX4_effectOf 22 = .ok (.ireturn, 1) := by decide +kernel
theorem dX4_targetOf_0 : decode cX4_targetOf 0 = .ok (.aload_n 0, 1) := by decide +kernel
theorem dX4_targetOf_1 : decode cX4_targetOf 1 = .ok (.iload_n 1, 1) := by decide +kernel
theorem dX4_targetOf_2 : decode cX4_targetOf 2 = .ok (.iload_n 2, 1) := by decide +kernel
theorem dX4_targetOf_3 : decode cX4_targetOf 3 = .ok (.invokevirtual 102, 3) := by decide +kernel
theorem dX4_targetOf_6 : decode cX4_targetOf 6 = .ok (.ifCond .eq 10, 3) := by decide +kernel
theorem dX4_targetOf_9 : decode cX4_targetOf 9 = .ok (.iload_n 3, 1) := by decide +kernel
theorem dX4_targetOf_10 : decode cX4_targetOf 10 = .ok (.invokestatic 123, 3) := by decide +kernel
theorem dX4_targetOf_13 : decode cX4_targetOf 13 = .ok (.ifCond .ne 5, 3) := by decide +kernel
theorem dX4_targetOf_16 : decode cX4_targetOf 16 = .ok (.iconst (-1), 1) := by decide +kernel
theorem dX4_targetOf_17 : decode cX4_targetOf 17 = .ok (.ireturn, 1) := by decide +kernel
theorem dX4_targetOf_18 : decode cX4_targetOf 18 = .ok (.aload_n 0, 1) := by decide +kernel
theorem dX4_targetOf_19 : decode cX4_targetOf 19 = .ok (.iload_n 1, 1) := by decide +kernel
theorem dX4_targetOf_20 : decode cX4_targetOf 20 = .ok (.invokevirtual 90, 3) := by decide +kernel
theorem dX4_targetOf_23 : decode cX4_targetOf 23 = .ok (.iload_n 2, 1) := by decide +kernel
theorem dX4_targetOf_24 : decode cX4_targetOf 24 = .ok (.iload_n 3, 1) := by decide +kernel
theorem dX4_targetOf_25 : decode cX4_targetOf 25 = .ok (.invokevirtual 129, 3) := by decide +kernel
theorem dX4_targetOf_28 : decode cX4_targetOf 28 = .ok (.ireturn, 1) := by decide +kernel
theorem dX4_algorithmOf_0 : decode cX4_algorithmOf 0 = .ok (.iload_n 1, 1) := by decide +kernel
theorem dX4_algorithmOf_1 : decode cX4_algorithmOf 1 = .ok (.invokestatic 83, 3) := by decide +kernel
theorem dX4_algorithmOf_4 : decode cX4_algorithmOf 4 = .ok (.ifCond .eq 14, 3) := by decide +kernel
theorem dX4_algorithmOf_7 : decode cX4_algorithmOf 7 = .ok (.aload_n 0, 1) := by decide +kernel
theorem dX4_algorithmOf_8 : decode cX4_algorithmOf 8 = .ok (.iload_n 1, 1) := by decide +kernel
theorem dX4_algorithmOf_9 : decode cX4_algorithmOf 9 = .ok (.invokevirtual 90, 3) := by decide +kernel
theorem dX4_algorithmOf_12 : decode cX4_algorithmOf 12 = .ok (.invokevirtual 117, 3) := by decide +kernel
theorem dX4_algorithmOf_15 : decode cX4_algorithmOf 15 = .ok (.goto 4, 3) := by decide +kernel
theorem dX4_algorithmOf_18 : decode cX4_algorithmOf 18 = .ok (.iconst (-1), 1) := by decide +kernel
theorem dX4_algorithmOf_19 : decode cX4_algorithmOf 19 = .ok (.ireturn, 1) := by decide +kernel
theorem dX4_decide_0 : decode cX4_decide 0 = .ok (.iload_n 1, 1) := by decide +kernel
theorem dX4_decide_1 : decode cX4_decide 1 = .ok (.invokestatic 83, 3) := by decide +kernel
theorem dX4_decide_4 : decode cX4_decide 4 = .ok (.ifCond .eq 10, 3) := by decide +kernel
theorem dX4_decide_7 : decode cX4_decide 7 = .ok (.iload_n 2, 1) := by decide +kernel
theorem dX4_decide_8 : decode cX4_decide 8 = .ok (.invokestatic 147, 3) := by decide +kernel
theorem dX4_decide_11 : decode cX4_decide 11 = .ok (.ifCond .ne 5, 3) := by decide +kernel
theorem dX4_decide_14 : decode cX4_decide 14 = .ok (.iconst (-1), 1) := by decide +kernel
theorem dX4_decide_15 : decode cX4_decide 15 = .ok (.ireturn, 1) := by decide +kernel
theorem dX4_decide_16 : decode cX4_decide 16 = .ok (.aload_n 0, 1) := by decide +kernel
theorem dX4_decide_17 : decode cX4_decide 17 = .ok (.iload_n 1, 1) := by decide +kernel
theorem dX4_decide_18 : decode cX4_decide 18 = .ok (.invokevirtual 90, 3) := by decide +kernel
theorem dX4_decide_21 : decode cX4_decide 21 = .ok (.iload_n 2, 1) := by decide +kernel
theorem dX4_decide_22 : decode cX4_decide 22 = .ok (.invokevirtual 150, 3) := by decide +kernel
theorem dX4_decide_25 : decode cX4_decide 25 = .ok (.ireturn, 1) := by decide +kernel
theorem dX4_decisionCount_0 : decode cX4_decisionCount 0 = .ok (.iload_n 1, 1) := by decide +kernel
theorem dX4_decisionCount_1 : decode cX4_decisionCount 1 = .ok (.invokestatic 83, 3) := by decide +kernel
theorem dX4_decisionCount_4 : decode cX4_decisionCount 4 = .ok (.ifCond .eq 10, 3) := by decide +kernel
theorem dX4_decisionCount_7 : decode cX4_decisionCount 7 = .ok (.iload_n 2, 1) := by decide +kernel
theorem dX4_decisionCount_8 : decode cX4_decisionCount 8 = .ok (.invokestatic 153, 3) := by decide +kernel
theorem dX4_decisionCount_11 : decode cX4_decisionCount 11 = .ok (.ifCond .ne 5, 3) := by decide +kernel
theorem dX4_decisionCount_14 : decode cX4_decisionCount 14 = .ok (.iconst (-1), 1) := by decide +kernel
theorem dX4_decisionCount_15 : decode cX4_decisionCount 15 = .ok (.ireturn, 1) := by decide +kernel
theorem dX4_decisionCount_16 : decode cX4_decisionCount 16 = .ok (.aload_n 0, 1) := by decide +kernel
theorem dX4_decisionCount_17 : decode cX4_decisionCount 17 = .ok (.iload_n 1, 1) := by decide +kernel
theorem dX4_decisionCount_18 : decode cX4_decisionCount 18 = .ok (.invokevirtual 90, 3) := by decide +kernel
theorem dX4_decisionCount_21 : decode cX4_decisionCount 21 = .ok (.iload_n 2, 1) := by decide +kernel
theorem dX4_decisionCount_22 : decode cX4_decisionCount 22 = .ok (.invokestatic 156, 3) := by decide +kernel
theorem dX4_decisionCount_25 : decode cX4_decisionCount 25 = .ok (.ireturn, 1) := by decide +kernel
theorem dX4_applicableRules_0 : decode cX4_applicableRules 0 = .ok (.iload_n 1, 1) := by decide +kernel
theorem dX4_applicableRules_1 : decode cX4_applicableRules 1 = .ok (.invokestatic 83, 3) := by decide +kernel
theorem dX4_applicableRules_4 : decode cX4_applicableRules 4 = .ok (.ifCond .eq 10, 3) := by decide +kernel
theorem dX4_applicableRules_7 : decode cX4_applicableRules 7 = .ok (.iload_n 2, 1) := by decide +kernel
