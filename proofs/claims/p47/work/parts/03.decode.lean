theorem dX0_init_0 : decode cX0_init 0 = .ok (.aload_n 0, 1) := by decide +kernel
theorem dX0_init_1 : decode cX0_init 1 = .ok (.invokespecial 1, 3) := by decide +kernel
theorem dX0_init_4 : decode cX0_init 4 = .ok (.return_, 1) := by decide +kernel
theorem dX0_begin_0 : decode cX0_begin 0 = .ok (.aload_n 0, 1) := by decide +kernel
theorem dX0_begin_1 : decode cX0_begin 1 = .ok (.iload_n 1, 1) := by decide +kernel
theorem dX0_begin_2 : decode cX0_begin 2 = .ok (.putfield 7, 3) := by decide +kernel
theorem dX0_begin_5 : decode cX0_begin 5 = .ok (.aload_n 0, 1) := by decide +kernel
theorem dX0_begin_6 : decode cX0_begin 6 = .ok (.iload_n 2, 1) := by decide +kernel
theorem dX0_begin_7 : decode cX0_begin 7 = .ok (.putfield 13, 3) := by decide +kernel
theorem dX0_begin_10 : decode cX0_begin 10 = .ok (.aload_n 0, 1) := by decide +kernel
theorem dX0_begin_11 : decode cX0_begin 11 = .ok (.iconst 0, 1) := by decide +kernel
theorem dX0_begin_12 : decode cX0_begin 12 = .ok (.putfield 16, 3) := by decide +kernel
theorem dX0_begin_15 : decode cX0_begin 15 = .ok (.return_, 1) := by decide +kernel
theorem dX1_init_0 : decode cX1_init 0 = .ok (.aload_n 0, 1) := by decide +kernel
theorem dX1_init_1 : decode cX1_init 1 = .ok (.invokespecial 3, 3) := by decide +kernel
theorem dX1_init_4 : decode cX1_init 4 = .ok (.return_, 1) := by decide +kernel
theorem dX1_restart_0 : decode cX1_restart 0 = .ok (.aload_n 0, 1) := by decide +kernel
theorem dX1_restart_1 : decode cX1_restart 1 = .ok (.iconst 0, 1) := by decide +kernel
theorem dX1_restart_2 : decode cX1_restart 2 = .ok (.putfield 9, 3) := by decide +kernel
theorem dX1_restart_5 : decode cX1_restart 5 = .ok (.aload_n 0, 1) := by decide +kernel
theorem dX1_restart_6 : decode cX1_restart 6 = .ok (.bipush 20, 2) := by decide +kernel
theorem dX1_restart_8 : decode cX1_restart 8 = .ok (.bipush 25, 2) := by decide +kernel
theorem dX1_restart_10 : decode cX1_restart 10 = .ok (.bipush 40, 2) := by decide +kernel
theorem dX1_restart_12 : decode cX1_restart 12 = .ok (.invokevirtual 15, 3) := by decide +kernel
theorem dX1_restart_15 : decode cX1_restart 15 = .ok (.return_, 1) := by decide +kernel
theorem dX1_fix_0 : decode cX1_fix 0 = .ok (.aload_n 0, 1) := by decide +kernel
theorem dX1_fix_1 : decode cX1_fix 1 = .ok (.iload_n 1, 1) := by decide +kernel
theorem dX1_fix_2 : decode cX1_fix 2 = .ok (.putfield 19, 3) := by decide +kernel
theorem dX1_fix_5 : decode cX1_fix 5 = .ok (.aload_n 0, 1) := by decide +kernel
theorem dX1_fix_6 : decode cX1_fix 6 = .ok (.iload_n 2, 1) := by decide +kernel
theorem dX1_fix_7 : decode cX1_fix 7 = .ok (.putfield 22, 3) := by decide +kernel
theorem dX1_fix_10 : decode cX1_fix 10 = .ok (.aload_n 0, 1) := by decide +kernel
theorem dX1_fix_11 : decode cX1_fix 11 = .ok (.iload_n 3, 1) := by decide +kernel
theorem dX1_fix_12 : decode cX1_fix 12 = .ok (.putfield 25, 3) := by decide +kernel
theorem dX1_fix_15 : decode cX1_fix 15 = .ok (.return_, 1) := by decide +kernel
theorem dX1_isBeforeClose_0 : decode cX1_isBeforeClose 0 = .ok (.aload_n 0, 1) := by decide +kernel
theorem dX1_isBeforeClose_1 : decode cX1_isBeforeClose 1 = .ok (.getfield 9, 3) := by decide +kernel
theorem dX1_isBeforeClose_4 : decode cX1_isBeforeClose 4 = .ok (.aload_n 0, 1) := by decide +kernel
theorem dX1_isBeforeClose_5 : decode cX1_isBeforeClose 5 = .ok (.getfield 19, 3) := by decide +kernel
theorem dX1_isBeforeClose_8 : decode cX1_isBeforeClose 8 = .ok (.if_icmp .gt 7, 3) := by decide +kernel
theorem dX1_isBeforeClose_11 : decode cX1_isBeforeClose 11 = .ok (.iconst 1, 1) := by decide +kernel
theorem dX1_isBeforeClose_12 : decode cX1_isBeforeClose 12 = .ok (.goto 4, 3) := by decide +kernel
theorem dX1_isBeforeClose_15 : decode cX1_isBeforeClose 15 = .ok (.iconst 0, 1) := by decide +kernel
theorem dX1_isBeforeClose_16 : decode cX1_isBeforeClose 16 = .ok (.ireturn, 1) := by decide +kernel
theorem dX1_allowsChanges_0 : decode cX1_allowsChanges 0 = .ok (.aload_n 0, 1) := by decide +kernel
theorem dX1_allowsChanges_1 : decode cX1_allowsChanges 1 = .ok (.getfield 9, 3) := by decide +kernel
theorem dX1_allowsChanges_4 : decode cX1_allowsChanges 4 = .ok (.aload_n 0, 1) := by decide +kernel
theorem dX1_allowsChanges_5 : decode cX1_allowsChanges 5 = .ok (.getfield 22, 3) := by decide +kernel
theorem dX1_allowsChanges_8 : decode cX1_allowsChanges 8 = .ok (.if_icmp .gt 7, 3) := by decide +kernel
theorem dX1_allowsChanges_11 : decode cX1_allowsChanges 11 = .ok (.iconst 1, 1) := by decide +kernel
theorem dX1_allowsChanges_12 : decode cX1_allowsChanges 12 = .ok (.goto 4, 3) := by decide +kernel
theorem dX1_allowsChanges_15 : decode cX1_allowsChanges 15 = .ok (.iconst 0, 1) := by decide +kernel
theorem dX1_allowsChanges_16 : decode cX1_allowsChanges 16 = .ok (.ireturn, 1) := by decide +kernel
theorem dX1_isPollingOpen_0 : decode cX1_isPollingOpen 0 = .ok (.aload_n 0, 1) := by decide +kernel
theorem dX1_isPollingOpen_1 : decode cX1_isPollingOpen 1 = .ok (.getfield 9, 3) := by decide +kernel
theorem dX1_isPollingOpen_4 : decode cX1_isPollingOpen 4 = .ok (.aload_n 0, 1) := by decide +kernel
theorem dX1_isPollingOpen_5 : decode cX1_isPollingOpen 5 = .ok (.getfield 25, 3) := by decide +kernel
theorem dX1_isPollingOpen_8 : decode cX1_isPollingOpen 8 = .ok (.if_icmp .lt 7, 3) := by decide +kernel
theorem dX1_isPollingOpen_11 : decode cX1_isPollingOpen 11 = .ok (.iconst 1, 1) := by decide +kernel
theorem dX1_isPollingOpen_12 : decode cX1_isPollingOpen 12 = .ok (.goto 4, 3) := by decide +kernel
theorem dX1_isPollingOpen_15 : decode cX1_isPollingOpen 15 = .ok (.iconst 0, 1) := by decide +kernel
theorem dX1_isPollingOpen_16 : decode cX1_isPollingOpen 16 = .ok (.ireturn, 1) := by decide +kernel
theorem dX2_init_0 : decode cX2_init 0 = .ok (.aload_n 0, 1) := by decide +kernel
theorem dX2_init_1 : decode cX2_init 1 = .ok (.invokespecial 3, 3) := by decide +kernel
theorem dX2_init_4 : decode cX2_init 4 = .ok (.aload_n 0, 1) := by decide +kernel
theorem dX2_init_5 : decode cX2_init 5 = .ok (.sipush 512, 3) := by decide +kernel
theorem dX2_init_8 : decode cX2_init 8 = .ok (.newarray .int, 2) := by decide +kernel
theorem dX2_init_10 : decode cX2_init 10 = .ok (.putfield 9, 3) := by decide +kernel
theorem dX2_init_13 : decode cX2_init 13 = .ok (.aload_n 0, 1) := by decide +kernel
theorem dX2_init_14 : decode cX2_init 14 = .ok (.sipush 512, 3) := by decide +kernel
theorem dX2_init_17 : decode cX2_init 17 = .ok (.newarray .int, 2) := by decide +kernel
theorem dX2_init_19 : decode cX2_init 19 = .ok (.putfield 15, 3) := by decide +kernel
theorem dX2_init_22 : decode cX2_init 22 = .ok (.aload_n 0, 1) := by decide +kernel
theorem dX2_init_23 : decode cX2_init 23 = .ok (.sipush 512, 3) := by decide +kernel
theorem dX2_init_26 : decode cX2_init 26 = .ok (.newarray .int, 2) := by decide +kernel
theorem dX2_init_28 : decode cX2_init 28 = .ok (.putfield 18, 3) := by decide +kernel
theorem dX2_init_31 : decode cX2_init 31 = .ok (.aload_n 0, 1) := by decide +kernel
theorem dX2_init_32 : decode cX2_init 32 = .ok (.sipush 512, 3) := by decide +kernel
theorem dX2_init_35 : decode cX2_init 35 = .ok (.newarray .int, 2) := by decide +kernel
theorem dX2_init_37 : decode cX2_init 37 = .ok (.putfield 21, 3) := by decide +kernel
theorem dX2_init_40 : decode cX2_init 40 = .ok (.return_, 1) := by decide +kernel
theorem dX2_write_0 : decode cX2_write 0 = .ok (.aload_n 0, 1) := by decide +kernel
theorem dX2_write_1 : decode cX2_write 1 = .ok (.getfield 24, 3) := by decide +kernel
theorem dX2_write_4 : decode cX2_write 4 = .ok (.sipush 512, 3) := by decide +kernel
theorem dX2_write_7 : decode cX2_write 7 = .ok (.if_icmp .ge 54, 3) := by decide +kernel
theorem dX2_write_10 : decode cX2_write 10 = .ok (.aload_n 0, 1) := by decide +kernel
theorem dX2_write_11 : decode cX2_write 11 = .ok (.getfield 9, 3) := by decide +kernel
theorem dX2_write_14 : decode cX2_write 14 = .ok (.aload_n 0, 1) := by decide +kernel
theorem dX2_write_15 : decode cX2_write 15 = .ok (.getfield 24, 3) := by decide +kernel
theorem dX2_write_18 : decode cX2_write 18 = .ok (.iload_n 1, 1) := by decide +kernel
theorem dX2_write_19 : decode cX2_write 19 = .ok (.iastore, 1) := by decide +kernel
theorem dX2_write_20 : decode cX2_write 20 = .ok (.aload_n 0, 1) := by decide +kernel
theorem dX2_write_21 : decode cX2_write 21 = .ok (.getfield 15, 3) := by decide +kernel
theorem dX2_write_24 : decode cX2_write 24 = .ok (.aload_n 0, 1) := by decide +kernel
theorem dX2_write_25 : decode cX2_write 25 = .ok (.getfield 24, 3) := by decide +kernel
theorem dX2_write_28 : decode cX2_write 28 = .ok (.iload_n 2, 1) := by decide +kernel
theorem dX2_write_29 : decode cX2_write 29 = .ok (.iastore, 1) := by decide +kernel
theorem dX2_write_30 : decode cX2_write 30 = .ok (.aload_n 0, 1) := by decide +kernel
theorem dX2_write_31 : decode cX2_write 31 = .ok (.getfield 18, 3) := by decide +kernel
theorem dX2_write_34 : decode cX2_write 34 = .ok (.aload_n 0, 1) := by decide +kernel
theorem dX2_write_35 : decode cX2_write 35 = .ok (.getfield 24, 3) := by decide +kernel
theorem dX2_write_38 : decode cX2_write 38 = .ok (.iload_n 3, 1) := by decide +kernel
theorem dX2_write_39 : decode cX2_write 39 = .ok (.iastore, 1) := by decide +kernel
theorem dX2_write_40 : decode cX2_write 40 = .ok (.aload_n 0, 1) := by decide +kernel
theorem dX2_write_41 : decode cX2_write 41 = .ok (.getfield 21, 3) := by decide +kernel
theorem dX2_write_44 : decode cX2_write 44 = .ok (.aload_n 0, 1) := by decide +kernel
theorem dX2_write_45 : decode cX2_write 45 = .ok (.getfield 24, 3) := by decide +kernel
theorem dX2_write_48 : decode cX2_write 48 = .ok (.iload 4, 2) := by decide +kernel
theorem dX2_write_50 : decode cX2_write 50 = .ok (.iastore, 1) := by decide +kernel
theorem dX2_write_51 : decode cX2_write 51 = .ok (.aload_n 0, 1) := by decide +kernel
theorem dX2_write_52 : decode cX2_write 52 = .ok (.dup, 1) := by decide +kernel
theorem dX2_write_53 : decode cX2_write 53 = .ok (.getfield 24, 3) := by decide +kernel
theorem dX2_write_56 : decode cX2_write 56 = .ok (.iconst 1, 1) := by decide +kernel
theorem dX2_write_57 : decode cX2_write 57 = .ok (.iadd, 1) := by decide +kernel
theorem dX2_write_58 : decode cX2_write 58 = .ok (.putfield 24, 3) := by decide +kernel
theorem dX2_write_61 : decode cX2_write 61 = .ok (.return_, 1) := by decide +kernel
theorem dX3_init_0 : decode cX3_init 0 = .ok (.aload_n 0, 1) := by decide +kernel
theorem dX3_init_1 : decode cX3_init 1 = .ok (.invokespecial 3, 3) := by decide +kernel
theorem dX3_init_4 : decode cX3_init 4 = .ok (.aload_n 0, 1) := by decide +kernel
theorem dX3_init_5 : decode cX3_init 5 = .ok (.bipush 26, 2) := by decide +kernel
theorem dX3_init_7 : decode cX3_init 7 = .ok (.newarray .char, 2) := by decide +kernel
theorem dX3_init_9 : decode cX3_init 9 = .ok (.putfield 9, 3) := by decide +kernel
theorem dX3_init_12 : decode cX3_init 12 = .ok (.aload_n 0, 1) := by decide +kernel
theorem dX3_init_13 : decode cX3_init 13 = .ok (.bipush 26, 2) := by decide +kernel
theorem dX3_init_15 : decode cX3_init 15 = .ok (.newarray .int, 2) := by decide +kernel
theorem dX3_init_17 : decode cX3_init 17 = .ok (.putfield 15, 3) := by decide +kernel
theorem dX3_init_20 : decode cX3_init 20 = .ok (.return_, 1) := by decide +kernel
theorem dX3_restart_0 : decode cX3_restart 0 = .ok (.aload_n 0, 1) := by decide +kernel
theorem dX3_restart_1 : decode cX3_restart 1 = .ok (.iconst 0, 1) := by decide +kernel
theorem dX3_restart_2 : decode cX3_restart 2 = .ok (.putfield 19, 3) := by decide +kernel
theorem dX3_restart_5 : decode cX3_restart 5 = .ok (.return_, 1) := by decide +kernel
theorem dX3_shuffle_0 : decode cX3_shuffle 0 = .ok (.iconst 0, 1) := by decide +kernel
theorem dX3_shuffle_1 : decode cX3_shuffle 1 = .ok (.istore_n 2, 1) := by decide +kernel
theorem dX3_shuffle_2 : decode cX3_shuffle 2 = .ok (.iload_n 2, 1) := by decide +kernel
theorem dX3_shuffle_3 : decode cX3_shuffle 3 = .ok (.bipush 26, 2) := by decide +kernel
theorem dX3_shuffle_5 : decode cX3_shuffle 5 = .ok (.if_icmp .ge 20, 3) := by decide +kernel
theorem dX3_shuffle_8 : decode cX3_shuffle 8 = .ok (.aload_n 0, 1) := by decide +kernel
theorem dX3_shuffle_9 : decode cX3_shuffle 9 = .ok (.getfield 9, 3) := by decide +kernel
theorem dX3_shuffle_12 : decode cX3_shuffle 12 = .ok (.iload_n 2, 1) := by decide +kernel
theorem dX3_shuffle_13 : decode cX3_shuffle 13 = .ok (.bipush 97, 2) := by decide +kernel
theorem dX3_shuffle_15 : decode cX3_shuffle 15 = .ok (.iload_n 2, 1) := by decide +kernel
theorem dX3_shuffle_16 : decode cX3_shuffle 16 = .ok (.iadd, 1) := by decide +kernel
theorem dX3_shuffle_17 : decode cX3_shuffle 17 = .ok (.i2c, 1) := by decide +kernel
theorem dX3_shuffle_18 : decode cX3_shuffle 18 = .ok (.castore, 1) := by decide +kernel
theorem dX3_shuffle_19 : decode cX3_shuffle 19 = .ok (.iinc 2 1, 3) := by decide +kernel
theorem dX3_shuffle_22 : decode cX3_shuffle 22 = .ok (.goto (-20), 3) := by decide +kernel
theorem dX3_shuffle_25 : decode cX3_shuffle 25 = .ok (.iload_n 1, 1) := by decide +kernel
theorem dX3_shuffle_26 : decode cX3_shuffle 26 = .ok (.istore_n 2, 1) := by decide +kernel
theorem dX3_shuffle_27 : decode cX3_shuffle 27 = .ok (.bipush 25, 2) := by decide +kernel
theorem dX3_shuffle_29 : decode cX3_shuffle 29 = .ok (.istore_n 3, 1) := by decide +kernel
theorem dX3_shuffle_30 : decode cX3_shuffle 30 = .ok (.iload_n 3, 1) := by decide +kernel
theorem dX3_shuffle_31 : decode cX3_shuffle 31 = .ok (.iconst 1, 1) := by decide +kernel
theorem dX3_shuffle_32 : decode cX3_shuffle 32 = .ok (.if_icmp .lt 31, 3) := by decide +kernel
theorem dX3_shuffle_35 : decode cX3_shuffle 35 = .ok (.iload_n 2, 1) := by decide +kernel
theorem dX3_shuffle_36 : decode cX3_shuffle 36 = .ok (.ldc 23, 2) := by decide +kernel
theorem dX3_shuffle_38 : decode cX3_shuffle 38 = .ok (.imul, 1) := by decide +kernel
theorem dX3_shuffle_39 : decode cX3_shuffle 39 = .ok (.sipush 12345, 3) := by decide +kernel
theorem dX3_shuffle_42 : decode cX3_shuffle 42 = .ok (.iadd, 1) := by decide +kernel
theorem dX3_shuffle_43 : decode cX3_shuffle 43 = .ok (.istore_n 2, 1) := by decide +kernel
theorem dX3_shuffle_44 : decode cX3_shuffle 44 = .ok (.aload_n 0, 1) := by decide +kernel
theorem dX3_shuffle_45 : decode cX3_shuffle 45 = .ok (.iload_n 2, 1) := by decide +kernel
theorem dX3_shuffle_46 : decode cX3_shuffle 46 = .ok (.bipush 8, 2) := by decide +kernel
theorem dX3_shuffle_48 : decode cX3_shuffle 48 = .ok (.iushr, 1) := by decide +kernel
theorem dX3_shuffle_49 : decode cX3_shuffle 49 = .ok (.iload_n 3, 1) := by decide +kernel
theorem dX3_shuffle_50 : decode cX3_shuffle 50 = .ok (.iconst 1, 1) := by decide +kernel
theorem dX3_shuffle_51 : decode cX3_shuffle 51 = .ok (.iadd, 1) := by decide +kernel
theorem dX3_shuffle_52 : decode cX3_shuffle 52 = .ok (.irem, 1) := by decide +kernel
theorem dX3_shuffle_53 : decode cX3_shuffle 53 = .ok (.iload_n 3, 1) := by decide +kernel
theorem dX3_shuffle_54 : decode cX3_shuffle 54 = .ok (.invokevirtual 24, 3) := by decide +kernel
theorem dX3_shuffle_57 : decode cX3_shuffle 57 = .ok (.iinc 3 (-1), 3) := by decide +kernel
theorem dX3_shuffle_60 : decode cX3_shuffle 60 = .ok (.goto (-30), 3) := by decide +kernel
theorem dX3_shuffle_63 : decode cX3_shuffle 63 = .ok (.iconst 0, 1) := by decide +kernel
theorem dX3_shuffle_64 : decode cX3_shuffle 64 = .ok (.istore_n 3, 1) := by decide +kernel
theorem dX3_shuffle_65 : decode cX3_shuffle 65 = .ok (.iload_n 3, 1) := by decide +kernel
theorem dX3_shuffle_66 : decode cX3_shuffle 66 = .ok (.bipush 26, 2) := by decide +kernel
theorem dX3_shuffle_68 : decode cX3_shuffle 68 = .ok (.if_icmp .ge 24, 3) := by decide +kernel
theorem dX3_shuffle_71 : decode cX3_shuffle 71 = .ok (.aload_n 0, 1) := by decide +kernel
theorem dX3_shuffle_72 : decode cX3_shuffle 72 = .ok (.getfield 15, 3) := by decide +kernel
theorem dX3_shuffle_75 : decode cX3_shuffle 75 = .ok (.aload_n 0, 1) := by decide +kernel
theorem dX3_shuffle_76 : decode cX3_shuffle 76 = .ok (.getfield 9, 3) := by decide +kernel
theorem dX3_shuffle_79 : decode cX3_shuffle 79 = .ok (.iload_n 3, 1) := by decide +kernel
theorem dX3_shuffle_80 : decode cX3_shuffle 80 = .ok (.caload, 1) := by decide +kernel
theorem dX3_shuffle_81 : decode cX3_shuffle 81 = .ok (.bipush 97, 2) := by decide +kernel
theorem dX3_shuffle_83 : decode cX3_shuffle 83 = .ok (.isub, 1) := by decide +kernel
theorem dX3_shuffle_84 : decode cX3_shuffle 84 = .ok (.iload_n 3, 1) := by decide +kernel
theorem dX3_shuffle_85 : decode cX3_shuffle 85 = .ok (.iastore, 1) := by decide +kernel
theorem dX3_shuffle_86 : decode cX3_shuffle 86 = .ok (.iinc 3 1, 3) := by decide +kernel
theorem dX3_shuffle_89 : decode cX3_shuffle 89 = .ok (.goto (-24), 3) := by decide +kernel
theorem dX3_shuffle_92 : decode cX3_shuffle 92 = .ok (.aload_n 0, 1) := by decide +kernel
theorem dX3_shuffle_93 : decode cX3_shuffle 93 = .ok (.iconst 1, 1) := by decide +kernel
theorem dX3_shuffle_94 : decode cX3_shuffle 94 = .ok (.putfield 19, 3) := by decide +kernel
theorem dX3_shuffle_97 : decode cX3_shuffle 97 = .ok (.return_, 1) := by decide +kernel
theorem dX3_exchange_0 : decode cX3_exchange 0 = .ok (.aload_n 0, 1) := by decide +kernel
theorem dX3_exchange_1 : decode cX3_exchange 1 = .ok (.getfield 9, 3) := by decide +kernel
theorem dX3_exchange_4 : decode cX3_exchange 4 = .ok (.iload_n 1, 1) := by decide +kernel
theorem dX3_exchange_5 : decode cX3_exchange 5 = .ok (.caload, 1) := by decide +kernel
theorem dX3_exchange_6 : decode cX3_exchange 6 = .ok (.istore_n 3, 1) := by decide +kernel
theorem dX3_exchange_7 : decode cX3_exchange 7 = .ok (.aload_n 0, 1) := by decide +kernel
theorem dX3_exchange_8 : decode cX3_exchange 8 = .ok (.getfield 9, 3) := by decide +kernel
theorem dX3_exchange_11 : decode cX3_exchange 11 = .ok (.iload_n 1, 1) := by decide +kernel
theorem dX3_exchange_12 : decode cX3_exchange 12 = .ok (.aload_n 0, 1) := by decide +kernel
theorem dX3_exchange_13 : decode cX3_exchange 13 = .ok (.getfield 9, 3) := by decide +kernel
theorem dX3_exchange_16 : decode cX3_exchange 16 = .ok (.iload_n 2, 1) := by decide +kernel
theorem dX3_exchange_17 : decode cX3_exchange 17 = .ok (.caload, 1) := by decide +kernel
theorem dX3_exchange_18 : decode cX3_exchange 18 = .ok (.castore, 1) := by decide +kernel
theorem dX3_exchange_19 : decode cX3_exchange 19 = .ok (.aload_n 0, 1) := by decide +kernel
theorem dX3_exchange_20 : decode cX3_exchange 20 = .ok (.getfield 9, 3) := by decide +kernel
theorem dX3_exchange_23 : decode cX3_exchange 23 = .ok (.iload_n 2, 1) := by decide +kernel
theorem dX3_exchange_24 : decode cX3_exchange 24 = .ok (.iload_n 3, 1) := by decide +kernel
theorem dX3_exchange_25 : decode cX3_exchange 25 = .ok (.castore, 1) := by decide +kernel
theorem dX3_exchange_26 : decode cX3_exchange 26 = .ok (.return_, 1) := by decide +kernel
theorem dX3_rankOf_0 : decode cX3_rankOf 0 = .ok (.iconst 0, 1) := by decide +kernel
theorem dX3_rankOf_1 : decode cX3_rankOf 1 = .ok (.istore_n 2, 1) := by decide +kernel
theorem dX3_rankOf_2 : decode cX3_rankOf 2 = .ok (.iconst 0, 1) := by decide +kernel
theorem dX3_rankOf_3 : decode cX3_rankOf 3 = .ok (.istore_n 3, 1) := by decide +kernel
theorem dX3_rankOf_4 : decode cX3_rankOf 4 = .ok (.iload_n 3, 1) := by decide +kernel
theorem dX3_rankOf_5 : decode cX3_rankOf 5 = .ok (.iconst 4, 1) := by decide +kernel
theorem dX3_rankOf_6 : decode cX3_rankOf 6 = .ok (.if_icmp .ge 46, 3) := by decide +kernel
theorem dX3_rankOf_9 : decode cX3_rankOf 9 = .ok (.iload_n 1, 1) := by decide +kernel
theorem dX3_rankOf_10 : decode cX3_rankOf 10 = .ok (.iload_n 3, 1) := by decide +kernel
theorem dX3_rankOf_11 : decode cX3_rankOf 11 = .ok (.invokestatic 28, 3) := by decide +kernel
theorem dX3_rankOf_14 : decode cX3_rankOf 14 = .ok (.istore 4, 2) := by decide +kernel
theorem dX3_rankOf_16 : decode cX3_rankOf 16 = .ok (.iload_n 2, 1) := by decide +kernel
theorem dX3_rankOf_17 : decode cX3_rankOf 17 = .ok (.bipush 27, 2) := by decide +kernel
theorem dX3_rankOf_19 : decode cX3_rankOf 19 = .ok (.imul, 1) := by decide +kernel
theorem dX3_rankOf_20 : decode cX3_rankOf 20 = .ok (.iload 4, 2) := by decide +kernel
theorem dX3_rankOf_22 : decode cX3_rankOf 22 = .ok (.invokestatic 32, 3) := by decide +kernel
theorem dX3_rankOf_25 : decode cX3_rankOf 25 = .ok (.ifCond .eq 18, 3) := by decide +kernel
theorem dX3_rankOf_28 : decode cX3_rankOf 28 = .ok (.aload_n 0, 1) := by decide +kernel
theorem dX3_rankOf_29 : decode cX3_rankOf 29 = .ok (.getfield 15, 3) := by decide +kernel
theorem dX3_rankOf_32 : decode cX3_rankOf 32 = .ok (.iload 4, 2) := by decide +kernel
theorem dX3_rankOf_34 : decode cX3_rankOf 34 = .ok (.bipush 97, 2) := by decide +kernel
theorem dX3_rankOf_36 : decode cX3_rankOf 36 = .ok (.isub, 1) := by decide +kernel
theorem dX3_rankOf_37 : decode cX3_rankOf 37 = .ok (.iaload, 1) := by decide +kernel
theorem dX3_rankOf_38 : decode cX3_rankOf 38 = .ok (.iconst 1, 1) := by decide +kernel
theorem dX3_rankOf_39 : decode cX3_rankOf 39 = .ok (.iadd, 1) := by decide +kernel
theorem dX3_rankOf_40 : decode cX3_rankOf 40 = .ok (.goto 4, 3) := by decide +kernel
theorem dX3_rankOf_43 : decode cX3_rankOf 43 = .ok (.iconst 0, 1) := by decide +kernel
theorem dX3_rankOf_44 : decode cX3_rankOf 44 = .ok (.iadd, 1) := by decide +kernel
theorem dX3_rankOf_45 : decode cX3_rankOf 45 = .ok (.istore_n 2, 1) := by decide +kernel
theorem dX3_rankOf_46 : decode cX3_rankOf 46 = .ok (.iinc 3 1, 3) := by decide +kernel
theorem dX3_rankOf_49 : decode cX3_rankOf 49 = .ok (.goto (-45), 3) := by decide +kernel
theorem dX3_rankOf_52 : decode cX3_rankOf 52 = .ok (.iload_n 2, 1) := by decide +kernel
theorem dX3_rankOf_53 : decode cX3_rankOf 53 = .ok (.ireturn, 1) := by decide +kernel
theorem dX4_init_0 : decode cX4_init 0 = .ok (.aload_n 0, 1) := by decide +kernel
theorem dX4_init_1 : decode cX4_init 1 = .ok (.invokespecial 3, 3) := by decide +kernel
theorem dX4_init_4 : decode cX4_init 4 = .ok (.aload_n 0, 1) := by decide +kernel
theorem dX4_init_5 : decode cX4_init 5 = .ok (.new 9, 3) := by decide +kernel
theorem dX4_init_8 : decode cX4_init 8 = .ok (.dup, 1) := by decide +kernel
theorem dX4_init_9 : decode cX4_init 9 = .ok (.invokespecial 11, 3) := by decide +kernel
theorem dX4_init_12 : decode cX4_init 12 = .ok (.putfield 12, 3) := by decide +kernel
theorem dX4_init_15 : decode cX4_init 15 = .ok (.aload_n 0, 1) := by decide +kernel
theorem dX4_init_16 : decode cX4_init 16 = .ok (.new 18, 3) := by decide +kernel
theorem dX4_init_19 : decode cX4_init 19 = .ok (.dup, 1) := by decide +kernel
theorem dX4_init_20 : decode cX4_init 20 = .ok (.invokespecial 20, 3) := by decide +kernel
theorem dX4_init_23 : decode cX4_init 23 = .ok (.putfield 21, 3) := by decide +kernel
theorem dX4_init_26 : decode cX4_init 26 = .ok (.aload_n 0, 1) := by decide +kernel
theorem dX4_init_27 : decode cX4_init 27 = .ok (.new 25, 3) := by decide +kernel
theorem dX4_init_30 : decode cX4_init 30 = .ok (.dup, 1) := by decide +kernel
theorem dX4_init_31 : decode cX4_init 31 = .ok (.invokespecial 27, 3) := by decide +kernel
theorem dX4_init_34 : decode cX4_init 34 = .ok (.putfield 28, 3) := by decide +kernel
theorem dX4_init_37 : decode cX4_init 37 = .ok (.aload_n 0, 1) := by decide +kernel
theorem dX4_init_38 : decode cX4_init 38 = .ok (.bipush 12, 2) := by decide +kernel
theorem dX4_init_40 : decode cX4_init 40 = .ok (.anewarray 32, 3) := by decide +kernel
theorem dX4_init_43 : decode cX4_init 43 = .ok (.putfield 34, 3) := by decide +kernel
theorem dX4_init_46 : decode cX4_init 46 = .ok (.aload_n 0, 1) := by decide +kernel
theorem dX4_init_47 : decode cX4_init 47 = .ok (.sipush 150, 3) := by decide +kernel
theorem dX4_init_50 : decode cX4_init 50 = .ok (.anewarray 38, 3) := by decide +kernel
theorem dX4_init_53 : decode cX4_init 53 = .ok (.putfield 40, 3) := by decide +kernel
theorem dX4_init_56 : decode cX4_init 56 = .ok (.aload_n 0, 1) := by decide +kernel
theorem dX4_init_57 : decode cX4_init 57 = .ok (.sipush 150, 3) := by decide +kernel
theorem dX4_init_60 : decode cX4_init 60 = .ok (.newarray .int, 2) := by decide +kernel
theorem dX4_init_62 : decode cX4_init 62 = .ok (.putfield 44, 3) := by decide +kernel
theorem dX4_init_65 : decode cX4_init 65 = .ok (.iconst 0, 1) := by decide +kernel
theorem dX4_init_66 : decode cX4_init 66 = .ok (.istore_n 1, 1) := by decide +kernel
theorem dX4_init_67 : decode cX4_init 67 = .ok (.iload_n 1, 1) := by decide +kernel
theorem dX4_init_68 : decode cX4_init 68 = .ok (.bipush 12, 2) := by decide +kernel
theorem dX4_init_70 : decode cX4_init 70 = .ok (.if_icmp .ge 22, 3) := by decide +kernel
theorem dX4_init_73 : decode cX4_init 73 = .ok (.aload_n 0, 1) := by decide +kernel
theorem dX4_init_74 : decode cX4_init 74 = .ok (.getfield 34, 3) := by decide +kernel
theorem dX4_init_77 : decode cX4_init 77 = .ok (.iload_n 1, 1) := by decide +kernel
theorem dX4_init_78 : decode cX4_init 78 = .ok (.new 32, 3) := by decide +kernel
theorem dX4_init_81 : decode cX4_init 81 = .ok (.dup, 1) := by decide +kernel
theorem dX4_init_82 : decode cX4_init 82 = .ok (.invokespecial 48, 3) := by decide +kernel
theorem dX4_init_85 : decode cX4_init 85 = .ok (.aastore, 1) := by decide +kernel
theorem dX4_init_86 : decode cX4_init 86 = .ok (.iinc 1 1, 3) := by decide +kernel
theorem dX4_init_89 : decode cX4_init 89 = .ok (.goto (-22), 3) := by decide +kernel
theorem dX4_init_92 : decode cX4_init 92 = .ok (.iconst 0, 1) := by decide +kernel
theorem dX4_init_93 : decode cX4_init 93 = .ok (.istore_n 1, 1) := by decide +kernel
theorem dX4_init_94 : decode cX4_init 94 = .ok (.iload_n 1, 1) := by decide +kernel
theorem dX4_init_95 : decode cX4_init 95 = .ok (.sipush 150, 3) := by decide +kernel
theorem dX4_init_98 : decode cX4_init 98 = .ok (.if_icmp .ge 22, 3) := by decide +kernel
theorem dX4_init_101 : decode cX4_init 101 = .ok (.aload_n 0, 1) := by decide +kernel
theorem dX4_init_102 : decode cX4_init 102 = .ok (.getfield 40, 3) := by decide +kernel
theorem dX4_init_105 : decode cX4_init 105 = .ok (.iload_n 1, 1) := by decide +kernel
theorem dX4_init_106 : decode cX4_init 106 = .ok (.new 38, 3) := by decide +kernel
theorem dX4_init_109 : decode cX4_init 109 = .ok (.dup, 1) := by decide +kernel
theorem dX4_init_110 : decode cX4_init 110 = .ok (.invokespecial 49, 3) := by decide +kernel
theorem dX4_init_113 : decode cX4_init 113 = .ok (.aastore, 1) := by decide +kernel
theorem dX4_init_114 : decode cX4_init 114 = .ok (.iinc 1 1, 3) := by decide +kernel
theorem dX4_init_117 : decode cX4_init 117 = .ok (.goto (-23), 3) := by decide +kernel
theorem dX4_init_120 : decode cX4_init 120 = .ok (.aload_n 0, 1) := by decide +kernel
theorem dX4_init_121 : decode cX4_init 121 = .ok (.invokevirtual 50, 3) := by decide +kernel
theorem dX4_init_124 : decode cX4_init 124 = .ok (.return_, 1) := by decide +kernel
theorem dX4_restart_0 : decode cX4_restart 0 = .ok (.aload_n 0, 1) := by decide +kernel
theorem dX4_restart_1 : decode cX4_restart 1 = .ok (.getfield 12, 3) := by decide +kernel
theorem dX4_restart_4 : decode cX4_restart 4 = .ok (.invokevirtual 53, 3) := by decide +kernel
theorem dX4_restart_7 : decode cX4_restart 7 = .ok (.aload_n 0, 1) := by decide +kernel
theorem dX4_restart_8 : decode cX4_restart 8 = .ok (.getfield 21, 3) := by decide +kernel
theorem dX4_restart_11 : decode cX4_restart 11 = .ok (.invokevirtual 54, 3) := by decide +kernel
theorem dX4_restart_14 : decode cX4_restart 14 = .ok (.aload_n 0, 1) := by decide +kernel
theorem dX4_restart_15 : decode cX4_restart 15 = .ok (.getfield 28, 3) := by decide +kernel
theorem dX4_restart_18 : decode cX4_restart 18 = .ok (.invokevirtual 55, 3) := by decide +kernel
theorem dX4_restart_21 : decode cX4_restart 21 = .ok (.aload_n 0, 1) := by decide +kernel
theorem dX4_restart_22 : decode cX4_restart 22 = .ok (.iconst 0, 1) := by decide +kernel
theorem dX4_restart_23 : decode cX4_restart 23 = .ok (.putfield 56, 3) := by decide +kernel
theorem dX4_restart_26 : decode cX4_restart 26 = .ok (.aload_n 0, 1) := by decide +kernel
theorem dX4_restart_27 : decode cX4_restart 27 = .ok (.iconst 0, 1) := by decide +kernel
theorem dX4_restart_28 : decode cX4_restart 28 = .ok (.putfield 60, 3) := by decide +kernel
theorem dX4_restart_31 : decode cX4_restart 31 = .ok (.aload_n 0, 1) := by decide +kernel
theorem dX4_restart_32 : decode cX4_restart 32 = .ok (.iconst 0, 1) := by decide +kernel
theorem dX4_restart_33 : decode cX4_restart 33 = .ok (.putfield 63, 3) := by decide +kernel
theorem dX4_restart_36 : decode cX4_restart 36 = .ok (.return_, 1) := by decide +kernel
theorem dX4_happen_0 : decode cX4_happen 0 = .ok (.iload_n 1, 1) := by decide +kernel
theorem dX4_happen_1 : decode cX4_happen 1 = .ok (.tableswitch 211 0 15 #[79, 93, 113, 125, 136, 152, 168, 211, 211, 211, 211, 211, 211, 184, 211, 195], 79) := by decide +kernel
theorem dX4_happen_80 : decode cX4_happen 80 = .ok (.aload_n 0, 1) := by decide +kernel
theorem dX4_happen_81 : decode cX4_happen 81 = .ok (.getfield 12, 3) := by decide +kernel
theorem dX4_happen_84 : decode cX4_happen 84 = .ok (.iload_n 2, 1) := by decide +kernel
theorem dX4_happen_85 : decode cX4_happen 85 = .ok (.iload_n 3, 1) := by decide +kernel
theorem dX4_happen_86 : decode cX4_happen 86 = .ok (.iload 4, 2) := by decide +kernel
theorem dX4_happen_88 : decode cX4_happen 88 = .ok (.invokevirtual 66, 3) := by decide +kernel
theorem dX4_happen_91 : decode cX4_happen 91 = .ok (.goto 130, 3) := by decide +kernel
theorem dX4_happen_94 : decode cX4_happen 94 = .ok (.aload_n 0, 1) := by decide +kernel
theorem dX4_happen_95 : decode cX4_happen 95 = .ok (.invokevirtual 70, 3) := by decide +kernel
theorem dX4_happen_98 : decode cX4_happen 98 = .ok (.aload_n 0, 1) := by decide +kernel
theorem dX4_happen_99 : decode cX4_happen 99 = .ok (.getfield 12, 3) := by decide +kernel
theorem dX4_happen_102 : decode cX4_happen 102 = .ok (.dup, 1) := by decide +kernel
theorem dX4_happen_103 : decode cX4_happen 103 = .ok (.getfield 73, 3) := by decide +kernel
theorem dX4_happen_106 : decode cX4_happen 106 = .ok (.iload_n 2, 1) := by decide +kernel
theorem dX4_happen_107 : decode cX4_happen 107 = .ok (.iadd, 1) := by decide +kernel
theorem dX4_happen_108 : decode cX4_happen 108 = .ok (.putfield 73, 3) := by decide +kernel
theorem dX4_happen_111 : decode cX4_happen 111 = .ok (.goto 110, 3) := by decide +kernel
theorem dX4_happen_114 : decode cX4_happen 114 = .ok (.aload_n 0, 1) := by decide +kernel
theorem dX4_happen_115 : decode cX4_happen 115 = .ok (.getfield 21, 3) := by decide +kernel
theorem dX4_happen_118 : decode cX4_happen 118 = .ok (.iload_n 2, 1) := by decide +kernel
theorem dX4_happen_119 : decode cX4_happen 119 = .ok (.iload_n 3, 1) := by decide +kernel
theorem dX4_happen_120 : decode cX4_happen 120 = .ok (.invokevirtual 76, 3) := by decide +kernel
theorem dX4_happen_123 : decode cX4_happen 123 = .ok (.goto 98, 3) := by decide +kernel
theorem dX4_happen_126 : decode cX4_happen 126 = .ok (.aload_n 0, 1) := by decide +kernel
theorem dX4_happen_127 : decode cX4_happen 127 = .ok (.getfield 21, 3) := by decide +kernel
theorem dX4_happen_130 : decode cX4_happen 130 = .ok (.iload_n 2, 1) := by decide +kernel
theorem dX4_happen_131 : decode cX4_happen 131 = .ok (.invokevirtual 80, 3) := by decide +kernel
theorem dX4_happen_134 : decode cX4_happen 134 = .ok (.goto 87, 3) := by decide +kernel
theorem dX4_happen_137 : decode cX4_happen 137 = .ok (.aload_n 0, 1) := by decide +kernel
theorem dX4_happen_138 : decode cX4_happen 138 = .ok (.getfield 21, 3) := by decide +kernel
theorem dX4_happen_141 : decode cX4_happen 141 = .ok (.getfield 84, 3) := by decide +kernel
theorem dX4_happen_144 : decode cX4_happen 144 = .ok (.iload_n 2, 1) := by decide +kernel
theorem dX4_happen_145 : decode cX4_happen 145 = .ok (.aaload, 1) := by decide +kernel
theorem dX4_happen_146 : decode cX4_happen 146 = .ok (.iload_n 3, 1) := by decide +kernel
theorem dX4_happen_147 : decode cX4_happen 147 = .ok (.putfield 88, 3) := by decide +kernel
theorem dX4_happen_150 : decode cX4_happen 150 = .ok (.goto 71, 3) := by decide +kernel
theorem dX4_happen_153 : decode cX4_happen 153 = .ok (.aload_n 0, 1) := by decide +kernel
theorem dX4_happen_154 : decode cX4_happen 154 = .ok (.getfield 21, 3) := by decide +kernel
theorem dX4_happen_157 : decode cX4_happen 157 = .ok (.getfield 84, 3) := by decide +kernel
theorem dX4_happen_160 : decode cX4_happen 160 = .ok (.iload_n 2, 1) := by decide +kernel
theorem dX4_happen_161 : decode cX4_happen 161 = .ok (.aaload, 1) := by decide +kernel
theorem dX4_happen_162 : decode cX4_happen 162 = .ok (.iconst 0, 1) := by decide +kernel
theorem dX4_happen_163 : decode cX4_happen 163 = .ok (.putfield 93, 3) := by decide +kernel
theorem dX4_happen_166 : decode cX4_happen 166 = .ok (.goto 55, 3) := by decide +kernel
theorem dX4_happen_169 : decode cX4_happen 169 = .ok (.aload_n 0, 1) := by decide +kernel
theorem dX4_happen_170 : decode cX4_happen 170 = .ok (.getfield 21, 3) := by decide +kernel
theorem dX4_happen_173 : decode cX4_happen 173 = .ok (.getfield 84, 3) := by decide +kernel
theorem dX4_happen_176 : decode cX4_happen 176 = .ok (.iload_n 2, 1) := by decide +kernel
theorem dX4_happen_177 : decode cX4_happen 177 = .ok (.aaload, 1) := by decide +kernel
theorem dX4_happen_178 : decode cX4_happen 178 = .ok (.iconst 1, 1) := by decide +kernel
theorem dX4_happen_179 : decode cX4_happen 179 = .ok (.putfield 93, 3) := by decide +kernel
theorem dX4_happen_182 : decode cX4_happen 182 = .ok (.goto 39, 3) := by decide +kernel
theorem dX4_happen_185 : decode cX4_happen 185 = .ok (.aload_n 0, 1) := by decide +kernel
theorem dX4_happen_186 : decode cX4_happen 186 = .ok (.getfield 28, 3) := by decide +kernel
theorem dX4_happen_189 : decode cX4_happen 189 = .ok (.iload_n 2, 1) := by decide +kernel
theorem dX4_happen_190 : decode cX4_happen 190 = .ok (.invokevirtual 97, 3) := by decide +kernel
theorem dX4_happen_193 : decode cX4_happen 193 = .ok (.goto 28, 3) := by decide +kernel
theorem dX4_happen_196 : decode cX4_happen 196 = .ok (.aload_n 0, 1) := by decide +kernel
theorem dX4_happen_197 : decode cX4_happen 197 = .ok (.getfield 21, 3) := by decide +kernel
theorem dX4_happen_200 : decode cX4_happen 200 = .ok (.getfield 100, 3) := by decide +kernel
theorem dX4_happen_203 : decode cX4_happen 203 = .ok (.iload_n 2, 1) := by decide +kernel
theorem dX4_happen_204 : decode cX4_happen 204 = .ok (.aaload, 1) := by decide +kernel
theorem dX4_happen_205 : decode cX4_happen 205 = .ok (.iconst 1, 1) := by decide +kernel
theorem dX4_happen_206 : decode cX4_happen 206 = .ok (.putfield 104, 3) := by decide +kernel
theorem dX4_happen_209 : decode cX4_happen 209 = .ok (.goto 12, 3) := by decide +kernel
theorem dX4_happen_212 : decode cX4_happen 212 = .ok (.aload_n 0, 1) := by decide +kernel
theorem dX4_happen_213 : decode cX4_happen 213 = .ok (.iload_n 1, 1) := by decide +kernel
theorem dX4_happen_214 : decode cX4_happen 214 = .ok (.iload_n 2, 1) := by decide +kernel
theorem dX4_happen_215 : decode cX4_happen 215 = .ok (.iload_n 3, 1) := by decide +kernel
theorem dX4_happen_216 : decode cX4_happen 216 = .ok (.iload 4, 2) := by decide +kernel
theorem dX4_happen_218 : decode cX4_happen 218 = .ok (.invokevirtual 109, 3) := by decide +kernel
theorem dX4_happen_221 : decode cX4_happen 221 = .ok (.return_, 1) := by decide +kernel
theorem dX4_happenToPaper_0 : decode cX4_happenToPaper 0 = .ok (.iload_n 1, 1) := by decide +kernel
theorem dX4_happenToPaper_1 : decode cX4_happenToPaper 1 = .ok (.tableswitch 168 7 14 #[47, 58, 67, 85, 124, 137, 168, 150], 47) := by decide +kernel
theorem dX4_happenToPaper_48 : decode cX4_happenToPaper 48 = .ok (.aload_n 0, 1) := by decide +kernel
theorem dX4_happenToPaper_49 : decode cX4_happenToPaper 49 = .ok (.iload_n 2, 1) := by decide +kernel
theorem dX4_happenToPaper_50 : decode cX4_happenToPaper 50 = .ok (.iload_n 3, 1) := by decide +kernel
theorem dX4_happenToPaper_51 : decode cX4_happenToPaper 51 = .ok (.iload 4, 2) := by decide +kernel
theorem dX4_happenToPaper_53 : decode cX4_happenToPaper 53 = .ok (.invokevirtual 113, 3) := by decide +kernel
theorem dX4_happenToPaper_56 : decode cX4_happenToPaper 56 = .ok (.goto 113, 3) := by decide +kernel
theorem dX4_happenToPaper_59 : decode cX4_happenToPaper 59 = .ok (.aload_n 0, 1) := by decide +kernel
theorem dX4_happenToPaper_60 : decode cX4_happenToPaper 60 = .ok (.iload_n 2, 1) := by decide +kernel
theorem dX4_happenToPaper_61 : decode cX4_happenToPaper 61 = .ok (.iload_n 3, 1) := by decide +kernel
theorem dX4_happenToPaper_62 : decode cX4_happenToPaper 62 = .ok (.invokevirtual 116, 3) := by decide +kernel
theorem dX4_happenToPaper_65 : decode cX4_happenToPaper 65 = .ok (.goto 104, 3) := by decide +kernel
theorem dX4_happenToPaper_68 : decode cX4_happenToPaper 68 = .ok (.aload_n 0, 1) := by decide +kernel
theorem dX4_happenToPaper_69 : decode cX4_happenToPaper 69 = .ok (.getfield 34, 3) := by decide +kernel
theorem dX4_happenToPaper_72 : decode cX4_happenToPaper 72 = .ok (.iload_n 2, 1) := by decide +kernel
theorem dX4_happenToPaper_73 : decode cX4_happenToPaper 73 = .ok (.aaload, 1) := by decide +kernel
theorem dX4_happenToPaper_74 : decode cX4_happenToPaper 74 = .ok (.dup, 1) := by decide +kernel
theorem dX4_happenToPaper_75 : decode cX4_happenToPaper 75 = .ok (.getfield 119, 3) := by decide +kernel
theorem dX4_happenToPaper_78 : decode cX4_happenToPaper 78 = .ok (.iload_n 3, 1) := by decide +kernel
theorem dX4_happenToPaper_79 : decode cX4_happenToPaper 79 = .ok (.iadd, 1) := by decide +kernel
theorem dX4_happenToPaper_80 : decode cX4_happenToPaper 80 = .ok (.putfield 119, 3) := by decide +kernel
theorem dX4_happenToPaper_83 : decode cX4_happenToPaper 83 = .ok (.goto 86, 3) := by decide +kernel
theorem dX4_happenToPaper_86 : decode cX4_happenToPaper 86 = .ok (.aload_n 0, 1) := by decide +kernel
theorem dX4_happenToPaper_87 : decode cX4_happenToPaper 87 = .ok (.dup, 1) := by decide +kernel
theorem dX4_happenToPaper_88 : decode cX4_happenToPaper 88 = .ok (.getfield 63, 3) := by decide +kernel
theorem dX4_happenToPaper_91 : decode cX4_happenToPaper 91 = .ok (.iconst 1, 1) := by decide +kernel
theorem dX4_happenToPaper_92 : decode cX4_happenToPaper 92 = .ok (.iload_n 2, 1) := by decide +kernel
theorem dX4_happenToPaper_93 : decode cX4_happenToPaper 93 = .ok (.ishl, 1) := by decide +kernel
theorem dX4_happenToPaper_94 : decode cX4_happenToPaper 94 = .ok (.ior, 1) := by decide +kernel
theorem dX4_happenToPaper_95 : decode cX4_happenToPaper 95 = .ok (.putfield 63, 3) := by decide +kernel
theorem dX4_happenToPaper_98 : decode cX4_happenToPaper 98 = .ok (.aload_n 0, 1) := by decide +kernel
theorem dX4_happenToPaper_99 : decode cX4_happenToPaper 99 = .ok (.getfield 34, 3) := by decide +kernel
theorem dX4_happenToPaper_102 : decode cX4_happenToPaper 102 = .ok (.iload_n 2, 1) := by decide +kernel
theorem dX4_happenToPaper_103 : decode cX4_happenToPaper 103 = .ok (.aaload, 1) := by decide +kernel
theorem dX4_happenToPaper_104 : decode cX4_happenToPaper 104 = .ok (.aload_n 0, 1) := by decide +kernel
theorem dX4_happenToPaper_105 : decode cX4_happenToPaper 105 = .ok (.getfield 12, 3) := by decide +kernel
theorem dX4_happenToPaper_108 : decode cX4_happenToPaper 108 = .ok (.invokevirtual 122, 3) := by decide +kernel
theorem dX4_happenToPaper_111 : decode cX4_happenToPaper 111 = .ok (.ifCond .ne 7, 3) := by decide +kernel
theorem dX4_happenToPaper_114 : decode cX4_happenToPaper 114 = .ok (.iconst 1, 1) := by decide +kernel
theorem dX4_happenToPaper_115 : decode cX4_happenToPaper 115 = .ok (.goto 4, 3) := by decide +kernel
theorem dX4_happenToPaper_118 : decode cX4_happenToPaper 118 = .ok (.iconst 0, 1) := by decide +kernel
theorem dX4_happenToPaper_119 : decode cX4_happenToPaper 119 = .ok (.putfield 126, 3) := by decide +kernel
theorem dX4_happenToPaper_122 : decode cX4_happenToPaper 122 = .ok (.goto 47, 3) := by decide +kernel
theorem dX4_happenToPaper_125 : decode cX4_happenToPaper 125 = .ok (.aload_n 0, 1) := by decide +kernel
theorem dX4_happenToPaper_126 : decode cX4_happenToPaper 126 = .ok (.getfield 34, 3) := by decide +kernel
theorem dX4_happenToPaper_129 : decode cX4_happenToPaper 129 = .ok (.iload_n 2, 1) := by decide +kernel
theorem dX4_happenToPaper_130 : decode cX4_happenToPaper 130 = .ok (.aaload, 1) := by decide +kernel
theorem dX4_happenToPaper_131 : decode cX4_happenToPaper 131 = .ok (.iconst 1, 1) := by decide +kernel
theorem dX4_happenToPaper_132 : decode cX4_happenToPaper 132 = .ok (.putfield 129, 3) := by decide +kernel
theorem dX4_happenToPaper_135 : decode cX4_happenToPaper 135 = .ok (.goto 34, 3) := by decide +kernel
theorem dX4_happenToPaper_138 : decode cX4_happenToPaper 138 = .ok (.aload_n 0, 1) := by decide +kernel
theorem dX4_happenToPaper_139 : decode cX4_happenToPaper 139 = .ok (.getfield 34, 3) := by decide +kernel
theorem dX4_happenToPaper_142 : decode cX4_happenToPaper 142 = .ok (.iload_n 2, 1) := by decide +kernel
theorem dX4_happenToPaper_143 : decode cX4_happenToPaper 143 = .ok (.aaload, 1) := by decide +kernel
theorem dX4_happenToPaper_144 : decode cX4_happenToPaper 144 = .ok (.iload_n 3, 1) := by decide +kernel
theorem dX4_happenToPaper_145 : decode cX4_happenToPaper 145 = .ok (.invokevirtual 132, 3) := by decide +kernel
theorem dX4_happenToPaper_148 : decode cX4_happenToPaper 148 = .ok (.goto 21, 3) := by decide +kernel
theorem dX4_happenToPaper_151 : decode cX4_happenToPaper 151 = .ok (.aload_n 0, 1) := by decide +kernel
theorem dX4_happenToPaper_152 : decode cX4_happenToPaper 152 = .ok (.getfield 34, 3) := by decide +kernel
theorem dX4_happenToPaper_155 : decode cX4_happenToPaper 155 = .ok (.iload_n 2, 1) := by decide +kernel
theorem dX4_happenToPaper_156 : decode cX4_happenToPaper 156 = .ok (.aaload, 1) := by decide +kernel
theorem dX4_happenToPaper_157 : decode cX4_happenToPaper 157 = .ok (.dup, 1) := by decide +kernel
theorem dX4_happenToPaper_158 : decode cX4_happenToPaper 158 = .ok (.getfield 135, 3) := by decide +kernel
theorem dX4_happenToPaper_161 : decode cX4_happenToPaper 161 = .ok (.iload_n 3, 1) := by decide +kernel
theorem dX4_happenToPaper_162 : decode cX4_happenToPaper 162 = .ok (.iadd, 1) := by decide +kernel
theorem dX4_happenToPaper_163 : decode cX4_happenToPaper 163 = .ok (.putfield 135, 3) := by decide +kernel
theorem dX4_happenToPaper_166 : decode cX4_happenToPaper 166 = .ok (.goto 3, 3) := by decide +kernel
theorem dX4_happenToPaper_169 : decode cX4_happenToPaper 169 = .ok (.return_, 1) := by decide +kernel
theorem dX4_beginPaper_0 : decode cX4_beginPaper 0 = .ok (.aload_n 0, 1) := by decide +kernel
theorem dX4_beginPaper_1 : decode cX4_beginPaper 1 = .ok (.getfield 34, 3) := by decide +kernel
theorem dX4_beginPaper_4 : decode cX4_beginPaper 4 = .ok (.aload_n 0, 1) := by decide +kernel
theorem dX4_beginPaper_5 : decode cX4_beginPaper 5 = .ok (.getfield 56, 3) := by decide +kernel
theorem dX4_beginPaper_8 : decode cX4_beginPaper 8 = .ok (.aaload, 1) := by decide +kernel
theorem dX4_beginPaper_9 : decode cX4_beginPaper 9 = .ok (.iload_n 1, 1) := by decide +kernel
theorem dX4_beginPaper_10 : decode cX4_beginPaper 10 = .ok (.iload_n 2, 1) := by decide +kernel
theorem dX4_beginPaper_11 : decode cX4_beginPaper 11 = .ok (.iload_n 3, 1) := by decide +kernel
theorem dX4_beginPaper_12 : decode cX4_beginPaper 12 = .ok (.invokevirtual 138, 3) := by decide +kernel
theorem dX4_beginPaper_15 : decode cX4_beginPaper 15 = .ok (.aload_n 0, 1) := by decide +kernel
theorem dX4_beginPaper_16 : decode cX4_beginPaper 16 = .ok (.dup, 1) := by decide +kernel
theorem dX4_beginPaper_17 : decode cX4_beginPaper 17 = .ok (.getfield 56, 3) := by decide +kernel
theorem dX4_beginPaper_20 : decode cX4_beginPaper 20 = .ok (.iconst 1, 1) := by decide +kernel
theorem dX4_beginPaper_21 : decode cX4_beginPaper 21 = .ok (.iadd, 1) := by decide +kernel
theorem dX4_beginPaper_22 : decode cX4_beginPaper 22 = .ok (.putfield 56, 3) := by decide +kernel
theorem dX4_beginPaper_25 : decode cX4_beginPaper 25 = .ok (.return_, 1) := by decide +kernel
theorem dX4_beginSignature_0 : decode cX4_beginSignature 0 = .ok (.aload_n 0, 1) := by decide +kernel
theorem dX4_beginSignature_1 : decode cX4_beginSignature 1 = .ok (.getfield 21, 3) := by decide +kernel
theorem dX4_beginSignature_4 : decode cX4_beginSignature 4 = .ok (.getfield 84, 3) := by decide +kernel
theorem dX4_beginSignature_7 : decode cX4_beginSignature 7 = .ok (.iload_n 2, 1) := by decide +kernel
theorem dX4_beginSignature_8 : decode cX4_beginSignature 8 = .ok (.aaload, 1) := by decide +kernel
theorem dX4_beginSignature_9 : decode cX4_beginSignature 9 = .ok (.astore_n 3, 1) := by decide +kernel
theorem dX4_beginSignature_10 : decode cX4_beginSignature 10 = .ok (.aload_n 3, 1) := by decide +kernel
theorem dX4_beginSignature_11 : decode cX4_beginSignature 11 = .ok (.getfield 93, 3) := by decide +kernel
theorem dX4_beginSignature_14 : decode cX4_beginSignature 14 = .ok (.ifCond .eq 23, 3) := by decide +kernel
theorem dX4_beginSignature_17 : decode cX4_beginSignature 17 = .ok (.aload_n 3, 1) := by decide +kernel
theorem dX4_beginSignature_18 : decode cX4_beginSignature 18 = .ok (.getfield 88, 3) := by decide +kernel
theorem dX4_beginSignature_21 : decode cX4_beginSignature 21 = .ok (.aload_n 0, 1) := by decide +kernel
theorem dX4_beginSignature_22 : decode cX4_beginSignature 22 = .ok (.getfield 34, 3) := by decide +kernel
theorem dX4_beginSignature_25 : decode cX4_beginSignature 25 = .ok (.iload_n 1, 1) := by decide +kernel
theorem dX4_beginSignature_26 : decode cX4_beginSignature 26 = .ok (.aaload, 1) := by decide +kernel
theorem dX4_beginSignature_27 : decode cX4_beginSignature 27 = .ok (.getfield 141, 3) := by decide +kernel
theorem dX4_beginSignature_30 : decode cX4_beginSignature 30 = .ok (.if_icmp .ne 7, 3) := by decide +kernel
theorem dX4_beginSignature_33 : decode cX4_beginSignature 33 = .ok (.iconst 1, 1) := by decide +kernel
theorem dX4_beginSignature_34 : decode cX4_beginSignature 34 = .ok (.goto 4, 3) := by decide +kernel
theorem dX4_beginSignature_37 : decode cX4_beginSignature 37 = .ok (.iconst 0, 1) := by decide +kernel
theorem dX4_beginSignature_38 : decode cX4_beginSignature 38 = .ok (.istore 4, 2) := by decide +kernel
theorem dX4_beginSignature_40 : decode cX4_beginSignature 40 = .ok (.aload_n 0, 1) := by decide +kernel
theorem dX4_beginSignature_41 : decode cX4_beginSignature 41 = .ok (.getfield 40, 3) := by decide +kernel
theorem dX4_beginSignature_44 : decode cX4_beginSignature 44 = .ok (.aload_n 0, 1) := by decide +kernel
theorem dX4_beginSignature_45 : decode cX4_beginSignature 45 = .ok (.getfield 60, 3) := by decide +kernel
theorem dX4_beginSignature_48 : decode cX4_beginSignature 48 = .ok (.aaload, 1) := by decide +kernel
theorem dX4_beginSignature_49 : decode cX4_beginSignature 49 = .ok (.iload_n 1, 1) := by decide +kernel
theorem dX4_beginSignature_50 : decode cX4_beginSignature 50 = .ok (.iload_n 2, 1) := by decide +kernel
theorem dX4_beginSignature_51 : decode cX4_beginSignature 51 = .ok (.iload 4, 2) := by decide +kernel
theorem dX4_beginSignature_53 : decode cX4_beginSignature 53 = .ok (.aload_n 3, 1) := by decide +kernel
theorem dX4_beginSignature_54 : decode cX4_beginSignature 54 = .ok (.getfield 142, 3) := by decide +kernel
theorem dX4_beginSignature_57 : decode cX4_beginSignature 57 = .ok (.invokevirtual 145, 3) := by decide +kernel
theorem dX4_beginSignature_60 : decode cX4_beginSignature 60 = .ok (.aload_n 0, 1) := by decide +kernel
theorem dX4_beginSignature_61 : decode cX4_beginSignature 61 = .ok (.dup, 1) := by decide +kernel
theorem dX4_beginSignature_62 : decode cX4_beginSignature 62 = .ok (.getfield 60, 3) := by decide +kernel
theorem dX4_beginSignature_65 : decode cX4_beginSignature 65 = .ok (.iconst 1, 1) := by decide +kernel
theorem dX4_beginSignature_66 : decode cX4_beginSignature 66 = .ok (.iadd, 1) := by decide +kernel
theorem dX4_beginSignature_67 : decode cX4_beginSignature 67 = .ok (.putfield 60, 3) := by decide +kernel
theorem dX4_beginSignature_70 : decode cX4_beginSignature 70 = .ok (.iload 4, 2) := by decide +kernel
theorem dX4_beginSignature_72 : decode cX4_beginSignature 72 = .ok (.ifCond .eq 15, 3) := by decide +kernel
theorem dX4_beginSignature_75 : decode cX4_beginSignature 75 = .ok (.aload_n 3, 1) := by decide +kernel
theorem dX4_beginSignature_76 : decode cX4_beginSignature 76 = .ok (.dup, 1) := by decide +kernel
theorem dX4_beginSignature_77 : decode cX4_beginSignature 77 = .ok (.getfield 142, 3) := by decide +kernel
theorem dX4_beginSignature_80 : decode cX4_beginSignature 80 = .ok (.iconst 1, 1) := by decide +kernel
theorem dX4_beginSignature_81 : decode cX4_beginSignature 81 = .ok (.iload_n 1, 1) := by decide +kernel
theorem dX4_beginSignature_82 : decode cX4_beginSignature 82 = .ok (.ishl, 1) := by decide +kernel
theorem dX4_beginSignature_83 : decode cX4_beginSignature 83 = .ok (.ior, 1) := by decide +kernel
theorem dX4_beginSignature_84 : decode cX4_beginSignature 84 = .ok (.putfield 142, 3) := by decide +kernel
theorem dX4_beginSignature_87 : decode cX4_beginSignature 87 = .ok (.return_, 1) := by decide +kernel
theorem dX4_judge_0 : decode cX4_judge 0 = .ok (.aload_n 0, 1) := by decide +kernel
theorem dX4_judge_1 : decode cX4_judge 1 = .ok (.getfield 12, 3) := by decide +kernel
theorem dX4_judge_4 : decode cX4_judge 4 = .ok (.invokevirtual 122, 3) := by decide +kernel
theorem dX4_judge_7 : decode cX4_judge 7 = .ok (.ifCond .eq 37, 3) := by decide +kernel
theorem dX4_judge_10 : decode cX4_judge 10 = .ok (.aload_n 0, 1) := by decide +kernel
theorem dX4_judge_11 : decode cX4_judge 11 = .ok (.invokevirtual 148, 3) := by decide +kernel
theorem dX4_judge_14 : decode cX4_judge 14 = .ok (.iconst 0, 1) := by decide +kernel
theorem dX4_judge_15 : decode cX4_judge 15 = .ok (.istore_n 1, 1) := by decide +kernel
theorem dX4_judge_16 : decode cX4_judge 16 = .ok (.iload_n 1, 1) := by decide +kernel
theorem dX4_judge_17 : decode cX4_judge 17 = .ok (.aload_n 0, 1) := by decide +kernel
theorem dX4_judge_18 : decode cX4_judge 18 = .ok (.getfield 56, 3) := by decide +kernel
theorem dX4_judge_21 : decode cX4_judge 21 = .ok (.if_icmp .ge 23, 3) := by decide +kernel
theorem dX4_judge_24 : decode cX4_judge 24 = .ok (.aload_n 0, 1) := by decide +kernel
theorem dX4_judge_25 : decode cX4_judge 25 = .ok (.getfield 34, 3) := by decide +kernel
theorem dX4_judge_28 : decode cX4_judge 28 = .ok (.iload_n 1, 1) := by decide +kernel
theorem dX4_judge_29 : decode cX4_judge 29 = .ok (.aaload, 1) := by decide +kernel
theorem dX4_judge_30 : decode cX4_judge 30 = .ok (.aload_n 0, 1) := by decide +kernel
theorem dX4_judge_31 : decode cX4_judge 31 = .ok (.iload_n 1, 1) := by decide +kernel
theorem dX4_judge_32 : decode cX4_judge 32 = .ok (.invokevirtual 151, 3) := by decide +kernel
theorem dX4_judge_35 : decode cX4_judge 35 = .ok (.putfield 155, 3) := by decide +kernel
theorem dX4_judge_38 : decode cX4_judge 38 = .ok (.iinc 1 1, 3) := by decide +kernel
theorem dX4_judge_41 : decode cX4_judge 41 = .ok (.goto (-25), 3) := by decide +kernel
theorem dX4_judge_44 : decode cX4_judge 44 = .ok (.return_, 1) := by decide +kernel
theorem dX4_judgeSignatures_0 : decode cX4_judgeSignatures 0 = .ok (.iconst 0, 1) := by decide +kernel
theorem dX4_judgeSignatures_1 : decode cX4_judgeSignatures 1 = .ok (.istore_n 1, 1) := by decide +kernel
theorem dX4_judgeSignatures_2 : decode cX4_judgeSignatures 2 = .ok (.iload_n 1, 1) := by decide +kernel
theorem dX4_judgeSignatures_3 : decode cX4_judgeSignatures 3 = .ok (.aload_n 0, 1) := by decide +kernel
theorem dX4_judgeSignatures_4 : decode cX4_judgeSignatures 4 = .ok (.getfield 56, 3) := by decide +kernel
theorem dX4_judgeSignatures_7 : decode cX4_judgeSignatures 7 = .ok (.if_icmp .ge 19, 3) := by decide +kernel
theorem dX4_judgeSignatures_10 : decode cX4_judgeSignatures 10 = .ok (.aload_n 0, 1) := by decide +kernel
theorem dX4_judgeSignatures_11 : decode cX4_judgeSignatures 11 = .ok (.getfield 34, 3) := by decide +kernel
theorem dX4_judgeSignatures_14 : decode cX4_judgeSignatures 14 = .ok (.iload_n 1, 1) := by decide +kernel
theorem dX4_judgeSignatures_15 : decode cX4_judgeSignatures 15 = .ok (.aaload, 1) := by decide +kernel
theorem dX4_judgeSignatures_16 : decode cX4_judgeSignatures 16 = .ok (.iconst 0, 1) := by decide +kernel
theorem dX4_judgeSignatures_17 : decode cX4_judgeSignatures 17 = .ok (.putfield 158, 3) := by decide +kernel
theorem dX4_judgeSignatures_20 : decode cX4_judgeSignatures 20 = .ok (.iinc 1 1, 3) := by decide +kernel
theorem dX4_judgeSignatures_23 : decode cX4_judgeSignatures 23 = .ok (.goto (-21), 3) := by decide +kernel
theorem dX4_judgeSignatures_26 : decode cX4_judgeSignatures 26 = .ok (.iconst 0, 1) := by decide +kernel
theorem dX4_judgeSignatures_27 : decode cX4_judgeSignatures 27 = .ok (.istore_n 1, 1) := by decide +kernel
theorem dX4_judgeSignatures_28 : decode cX4_judgeSignatures 28 = .ok (.iload_n 1, 1) := by decide +kernel
theorem dX4_judgeSignatures_29 : decode cX4_judgeSignatures 29 = .ok (.aload_n 0, 1) := by decide +kernel
theorem dX4_judgeSignatures_30 : decode cX4_judgeSignatures 30 = .ok (.getfield 60, 3) := by decide +kernel
theorem dX4_judgeSignatures_33 : decode cX4_judgeSignatures 33 = .ok (.if_icmp .ge 50, 3) := by decide +kernel
theorem dX4_judgeSignatures_36 : decode cX4_judgeSignatures 36 = .ok (.aload_n 0, 1) := by decide +kernel
theorem dX4_judgeSignatures_37 : decode cX4_judgeSignatures 37 = .ok (.getfield 40, 3) := by decide +kernel
theorem dX4_judgeSignatures_40 : decode cX4_judgeSignatures 40 = .ok (.iload_n 1, 1) := by decide +kernel
theorem dX4_judgeSignatures_41 : decode cX4_judgeSignatures 41 = .ok (.aaload, 1) := by decide +kernel
theorem dX4_judgeSignatures_42 : decode cX4_judgeSignatures 42 = .ok (.astore_n 2, 1) := by decide +kernel
theorem dX4_judgeSignatures_43 : decode cX4_judgeSignatures 43 = .ok (.aload_n 2, 1) := by decide +kernel
theorem dX4_judgeSignatures_44 : decode cX4_judgeSignatures 44 = .ok (.aload_n 0, 1) := by decide +kernel
theorem dX4_judgeSignatures_45 : decode cX4_judgeSignatures 45 = .ok (.aload_n 2, 1) := by decide +kernel
theorem dX4_judgeSignatures_46 : decode cX4_judgeSignatures 46 = .ok (.invokevirtual 161, 3) := by decide +kernel
theorem dX4_judgeSignatures_49 : decode cX4_judgeSignatures 49 = .ok (.putfield 165, 3) := by decide +kernel
theorem dX4_judgeSignatures_52 : decode cX4_judgeSignatures 52 = .ok (.aload_n 2, 1) := by decide +kernel
theorem dX4_judgeSignatures_53 : decode cX4_judgeSignatures 53 = .ok (.getfield 165, 3) := by decide +kernel
theorem dX4_judgeSignatures_56 : decode cX4_judgeSignatures 56 = .ok (.ifCond .ne 21, 3) := by decide +kernel
theorem dX4_judgeSignatures_59 : decode cX4_judgeSignatures 59 = .ok (.aload_n 0, 1) := by decide +kernel
theorem dX4_judgeSignatures_60 : decode cX4_judgeSignatures 60 = .ok (.getfield 34, 3) := by decide +kernel
theorem dX4_judgeSignatures_63 : decode cX4_judgeSignatures 63 = .ok (.aload_n 2, 1) := by decide +kernel
theorem dX4_judgeSignatures_64 : decode cX4_judgeSignatures 64 = .ok (.getfield 168, 3) := by decide +kernel
theorem dX4_judgeSignatures_67 : decode cX4_judgeSignatures 67 = .ok (.aaload, 1) := by decide +kernel
theorem dX4_judgeSignatures_68 : decode cX4_judgeSignatures 68 = .ok (.dup, 1) := by decide +kernel
theorem dX4_judgeSignatures_69 : decode cX4_judgeSignatures 69 = .ok (.getfield 158, 3) := by decide +kernel
theorem dX4_judgeSignatures_72 : decode cX4_judgeSignatures 72 = .ok (.iconst 1, 1) := by decide +kernel
theorem dX4_judgeSignatures_73 : decode cX4_judgeSignatures 73 = .ok (.iadd, 1) := by decide +kernel
theorem dX4_judgeSignatures_74 : decode cX4_judgeSignatures 74 = .ok (.putfield 158, 3) := by decide +kernel
theorem dX4_judgeSignatures_77 : decode cX4_judgeSignatures 77 = .ok (.iinc 1 1, 3) := by decide +kernel
theorem dX4_judgeSignatures_80 : decode cX4_judgeSignatures 80 = .ok (.goto (-52), 3) := by decide +kernel
theorem dX4_judgeSignatures_83 : decode cX4_judgeSignatures 83 = .ok (.return_, 1) := by decide +kernel
theorem dX4_resultOf_0 : decode cX4_resultOf 0 = .ok (.aload_n 1, 1) := by decide +kernel
theorem dX4_resultOf_1 : decode cX4_resultOf 1 = .ok (.getfield 171, 3) := by decide +kernel
theorem dX4_resultOf_4 : decode cX4_resultOf 4 = .ok (.ifCond .ne 5, 3) := by decide +kernel
theorem dX4_resultOf_7 : decode cX4_resultOf 7 = .ok (.iconst 1, 1) := by decide +kernel
theorem dX4_resultOf_8 : decode cX4_resultOf 8 = .ok (.ireturn, 1) := by decide +kernel
theorem dX4_resultOf_9 : decode cX4_resultOf 9 = .ok (.aload_n 0, 1) := by decide +kernel
theorem dX4_resultOf_10 : decode cX4_resultOf 10 = .ok (.getfield 21, 3) := by decide +kernel
theorem dX4_resultOf_13 : decode cX4_resultOf 13 = .ok (.getfield 84, 3) := by decide +kernel
theorem dX4_resultOf_16 : decode cX4_resultOf 16 = .ok (.aload_n 1, 1) := by decide +kernel
theorem dX4_resultOf_17 : decode cX4_resultOf 17 = .ok (.getfield 174, 3) := by decide +kernel
theorem dX4_resultOf_20 : decode cX4_resultOf 20 = .ok (.aaload, 1) := by decide +kernel
theorem dX4_resultOf_21 : decode cX4_resultOf 21 = .ok (.getfield 93, 3) := by decide +kernel
theorem dX4_resultOf_24 : decode cX4_resultOf 24 = .ok (.ifCond .ne 5, 3) := by decide +kernel
theorem dX4_resultOf_27 : decode cX4_resultOf 27 = .ok (.iconst 2, 1) := by decide +kernel
theorem dX4_resultOf_28 : decode cX4_resultOf 28 = .ok (.ireturn, 1) := by decide +kernel
theorem dX4_resultOf_29 : decode cX4_resultOf 29 = .ok (.aload_n 0, 1) := by decide +kernel
theorem dX4_resultOf_30 : decode cX4_resultOf 30 = .ok (.aload_n 1, 1) := by decide +kernel
theorem dX4_resultOf_31 : decode cX4_resultOf 31 = .ok (.getfield 168, 3) := by decide +kernel
theorem dX4_resultOf_34 : decode cX4_resultOf 34 = .ok (.invokevirtual 177, 3) := by decide +kernel
theorem dX4_resultOf_37 : decode cX4_resultOf 37 = .ok (.ifCond .eq 5, 3) := by decide +kernel
theorem dX4_resultOf_40 : decode cX4_resultOf 40 = .ok (.iconst 3, 1) := by decide +kernel
theorem dX4_resultOf_41 : decode cX4_resultOf 41 = .ok (.ireturn, 1) := by decide +kernel
theorem dX4_resultOf_42 : decode cX4_resultOf 42 = .ok (.aload_n 1, 1) := by decide +kernel
theorem dX4_resultOf_43 : decode cX4_resultOf 43 = .ok (.getfield 181, 3) := by decide +kernel
theorem dX4_resultOf_46 : decode cX4_resultOf 46 = .ok (.aload_n 0, 1) := by decide +kernel
theorem dX4_resultOf_47 : decode cX4_resultOf 47 = .ok (.getfield 63, 3) := by decide +kernel
theorem dX4_resultOf_50 : decode cX4_resultOf 50 = .ok (.iconst (-1), 1) := by decide +kernel
theorem dX4_resultOf_51 : decode cX4_resultOf 51 = .ok (.ixor, 1) := by decide +kernel
theorem dX4_resultOf_52 : decode cX4_resultOf 52 = .ok (.iand, 1) := by decide +kernel
theorem dX4_resultOf_53 : decode cX4_resultOf 53 = .ok (.ifCond .eq 7, 3) := by decide +kernel
theorem dX4_resultOf_56 : decode cX4_resultOf 56 = .ok (.iconst 4, 1) := by decide +kernel
theorem dX4_resultOf_57 : decode cX4_resultOf 57 = .ok (.goto 4, 3) := by decide +kernel
theorem dX4_resultOf_60 : decode cX4_resultOf 60 = .ok (.iconst 0, 1) := by decide +kernel
theorem dX4_resultOf_61 : decode cX4_resultOf 61 = .ok (.ireturn, 1) := by decide +kernel
theorem dX4_verdictOn_0 : decode cX4_verdictOn 0 = .ok (.aload_n 0, 1) := by decide +kernel
theorem dX4_verdictOn_1 : decode cX4_verdictOn 1 = .ok (.getfield 34, 3) := by decide +kernel
theorem dX4_verdictOn_4 : decode cX4_verdictOn 4 = .ok (.iload_n 1, 1) := by decide +kernel
theorem dX4_verdictOn_5 : decode cX4_verdictOn 5 = .ok (.aaload, 1) := by decide +kernel
theorem dX4_verdictOn_6 : decode cX4_verdictOn 6 = .ok (.astore_n 2, 1) := by decide +kernel
theorem dX4_verdictOn_7 : decode cX4_verdictOn 7 = .ok (.aload_n 0, 1) := by decide +kernel
theorem dX4_verdictOn_8 : decode cX4_verdictOn 8 = .ok (.getfield 21, 3) := by decide +kernel
theorem dX4_verdictOn_11 : decode cX4_verdictOn 11 = .ok (.getfield 100, 3) := by decide +kernel
theorem dX4_verdictOn_14 : decode cX4_verdictOn 14 = .ok (.aload_n 2, 1) := by decide +kernel
theorem dX4_verdictOn_15 : decode cX4_verdictOn 15 = .ok (.getfield 141, 3) := by decide +kernel
theorem dX4_verdictOn_18 : decode cX4_verdictOn 18 = .ok (.aaload, 1) := by decide +kernel
theorem dX4_verdictOn_19 : decode cX4_verdictOn 19 = .ok (.astore_n 3, 1) := by decide +kernel
theorem dX4_verdictOn_20 : decode cX4_verdictOn 20 = .ok (.aload_n 0, 1) := by decide +kernel
theorem dX4_verdictOn_21 : decode cX4_verdictOn 21 = .ok (.iload_n 1, 1) := by decide +kernel
theorem dX4_verdictOn_22 : decode cX4_verdictOn 22 = .ok (.invokevirtual 177, 3) := by decide +kernel
theorem dX4_verdictOn_25 : decode cX4_verdictOn 25 = .ok (.ifCond .eq 5, 3) := by decide +kernel
theorem dX4_verdictOn_28 : decode cX4_verdictOn 28 = .ok (.iconst 1, 1) := by decide +kernel
theorem dX4_verdictOn_29 : decode cX4_verdictOn 29 = .ok (.ireturn, 1) := by decide +kernel
theorem dX4_verdictOn_30 : decode cX4_verdictOn 30 = .ok (.aload_n 2, 1) := by decide +kernel
theorem dX4_verdictOn_31 : decode cX4_verdictOn 31 = .ok (.getfield 119, 3) := by decide +kernel
theorem dX4_verdictOn_34 : decode cX4_verdictOn 34 = .ok (.aload_n 3, 1) := by decide +kernel
theorem dX4_verdictOn_35 : decode cX4_verdictOn 35 = .ok (.getfield 184, 3) := by decide +kernel
theorem dX4_verdictOn_38 : decode cX4_verdictOn 38 = .ok (.if_icmp .ge 5, 3) := by decide +kernel
theorem dX4_verdictOn_41 : decode cX4_verdictOn 41 = .ok (.iconst 2, 1) := by decide +kernel
theorem dX4_verdictOn_42 : decode cX4_verdictOn 42 = .ok (.ireturn, 1) := by decide +kernel
theorem dX4_verdictOn_43 : decode cX4_verdictOn 43 = .ok (.aload_n 2, 1) := by decide +kernel
theorem dX4_verdictOn_44 : decode cX4_verdictOn 44 = .ok (.getfield 158, 3) := by decide +kernel
theorem dX4_verdictOn_47 : decode cX4_verdictOn 47 = .ok (.aload_n 3, 1) := by decide +kernel
theorem dX4_verdictOn_48 : decode cX4_verdictOn 48 = .ok (.getfield 187, 3) := by decide +kernel
theorem dX4_verdictOn_51 : decode cX4_verdictOn 51 = .ok (.if_icmp .ge 5, 3) := by decide +kernel
theorem dX4_verdictOn_54 : decode cX4_verdictOn 54 = .ok (.iconst 3, 1) := by decide +kernel
theorem dX4_verdictOn_55 : decode cX4_verdictOn 55 = .ok (.ireturn, 1) := by decide +kernel
theorem dX4_verdictOn_56 : decode cX4_verdictOn 56 = .ok (.aload_n 0, 1) := by decide +kernel
theorem dX4_verdictOn_57 : decode cX4_verdictOn 57 = .ok (.iload_n 1, 1) := by decide +kernel
theorem dX4_verdictOn_58 : decode cX4_verdictOn 58 = .ok (.invokevirtual 190, 3) := by decide +kernel
theorem dX4_verdictOn_61 : decode cX4_verdictOn 61 = .ok (.ifCond .eq 7, 3) := by decide +kernel
theorem dX4_verdictOn_64 : decode cX4_verdictOn 64 = .ok (.iconst 4, 1) := by decide +kernel
theorem dX4_verdictOn_65 : decode cX4_verdictOn 65 = .ok (.goto 4, 3) := by decide +kernel
theorem dX4_verdictOn_68 : decode cX4_verdictOn 68 = .ok (.iconst 0, 1) := by decide +kernel
theorem dX4_verdictOn_69 : decode cX4_verdictOn 69 = .ok (.ireturn, 1) := by decide +kernel
theorem dX4_isDouble_0 : decode cX4_isDouble 0 = .ok (.aload_n 0, 1) := by decide +kernel
theorem dX4_isDouble_1 : decode cX4_isDouble 1 = .ok (.getfield 34, 3) := by decide +kernel
theorem dX4_isDouble_4 : decode cX4_isDouble 4 = .ok (.iload_n 1, 1) := by decide +kernel
theorem dX4_isDouble_5 : decode cX4_isDouble 5 = .ok (.aaload, 1) := by decide +kernel
theorem dX4_isDouble_6 : decode cX4_isDouble 6 = .ok (.astore_n 2, 1) := by decide +kernel
theorem dX4_isDouble_7 : decode cX4_isDouble 7 = .ok (.aload_n 2, 1) := by decide +kernel
theorem dX4_isDouble_8 : decode cX4_isDouble 8 = .ok (.getfield 193, 3) := by decide +kernel
theorem dX4_isDouble_11 : decode cX4_isDouble 11 = .ok (.iconst (-1), 1) := by decide +kernel
theorem dX4_isDouble_12 : decode cX4_isDouble 12 = .ok (.if_icmp .ne 5, 3) := by decide +kernel
theorem dX4_isDouble_15 : decode cX4_isDouble 15 = .ok (.iconst 0, 1) := by decide +kernel
theorem dX4_isDouble_16 : decode cX4_isDouble 16 = .ok (.ireturn, 1) := by decide +kernel
theorem dX4_isDouble_17 : decode cX4_isDouble 17 = .ok (.iconst 0, 1) := by decide +kernel
theorem dX4_isDouble_18 : decode cX4_isDouble 18 = .ok (.istore_n 3, 1) := by decide +kernel
theorem dX4_isDouble_19 : decode cX4_isDouble 19 = .ok (.iload_n 3, 1) := by decide +kernel
theorem dX4_isDouble_20 : decode cX4_isDouble 20 = .ok (.iload_n 1, 1) := by decide +kernel
theorem dX4_isDouble_21 : decode cX4_isDouble 21 = .ok (.if_icmp .ge 51, 3) := by decide +kernel
theorem dX4_isDouble_24 : decode cX4_isDouble 24 = .ok (.aload_n 0, 1) := by decide +kernel
theorem dX4_isDouble_25 : decode cX4_isDouble 25 = .ok (.getfield 34, 3) := by decide +kernel
theorem dX4_isDouble_28 : decode cX4_isDouble 28 = .ok (.iload_n 3, 1) := by decide +kernel
theorem dX4_isDouble_29 : decode cX4_isDouble 29 = .ok (.aaload, 1) := by decide +kernel
theorem dX4_isDouble_30 : decode cX4_isDouble 30 = .ok (.astore 4, 2) := by decide +kernel
theorem dX4_isDouble_32 : decode cX4_isDouble 32 = .ok (.aload 4, 2) := by decide +kernel
theorem dX4_isDouble_34 : decode cX4_isDouble 34 = .ok (.getfield 193, 3) := by decide +kernel
theorem dX4_isDouble_37 : decode cX4_isDouble 37 = .ok (.aload_n 2, 1) := by decide +kernel
theorem dX4_isDouble_38 : decode cX4_isDouble 38 = .ok (.getfield 193, 3) := by decide +kernel
theorem dX4_isDouble_41 : decode cX4_isDouble 41 = .ok (.if_icmp .ne 25, 3) := by decide +kernel
theorem dX4_isDouble_44 : decode cX4_isDouble 44 = .ok (.aload 4, 2) := by decide +kernel
theorem dX4_isDouble_46 : decode cX4_isDouble 46 = .ok (.getfield 141, 3) := by decide +kernel
theorem dX4_isDouble_49 : decode cX4_isDouble 49 = .ok (.aload_n 2, 1) := by decide +kernel
theorem dX4_isDouble_50 : decode cX4_isDouble 50 = .ok (.getfield 141, 3) := by decide +kernel
theorem dX4_isDouble_53 : decode cX4_isDouble 53 = .ok (.if_icmp .ne 13, 3) := by decide +kernel
theorem dX4_isDouble_56 : decode cX4_isDouble 56 = .ok (.aload 4, 2) := by decide +kernel
theorem dX4_isDouble_58 : decode cX4_isDouble 58 = .ok (.getfield 155, 3) := by decide +kernel
theorem dX4_isDouble_61 : decode cX4_isDouble 61 = .ok (.ifCond .ne 5, 3) := by decide +kernel
theorem dX4_isDouble_64 : decode cX4_isDouble 64 = .ok (.iconst 1, 1) := by decide +kernel
theorem dX4_isDouble_65 : decode cX4_isDouble 65 = .ok (.ireturn, 1) := by decide +kernel
theorem dX4_isDouble_66 : decode cX4_isDouble 66 = .ok (.iinc 3 1, 3) := by decide +kernel
theorem dX4_isDouble_69 : decode cX4_isDouble 69 = .ok (.goto (-50), 3) := by decide +kernel
theorem dX4_isDouble_72 : decode cX4_isDouble 72 = .ok (.iconst 0, 1) := by decide +kernel
theorem dX4_isDouble_73 : decode cX4_isDouble 73 = .ok (.ireturn, 1) := by decide +kernel
theorem dX4_isWithdrawn_0 : decode cX4_isWithdrawn 0 = .ok (.aload_n 0, 1) := by decide +kernel
theorem dX4_isWithdrawn_1 : decode cX4_isWithdrawn 1 = .ok (.getfield 63, 3) := by decide +kernel
theorem dX4_isWithdrawn_4 : decode cX4_isWithdrawn 4 = .ok (.iconst 1, 1) := by decide +kernel
theorem dX4_isWithdrawn_5 : decode cX4_isWithdrawn 5 = .ok (.iload_n 1, 1) := by decide +kernel
theorem dX4_isWithdrawn_6 : decode cX4_isWithdrawn 6 = .ok (.ishl, 1) := by decide +kernel
theorem dX4_isWithdrawn_7 : decode cX4_isWithdrawn 7 = .ok (.iand, 1) := by decide +kernel
theorem dX4_isWithdrawn_8 : decode cX4_isWithdrawn 8 = .ok (.ifCond .eq 7, 3) := by decide +kernel
theorem dX4_isWithdrawn_11 : decode cX4_isWithdrawn 11 = .ok (.iconst 1, 1) := by decide +kernel
theorem dX4_isWithdrawn_12 : decode cX4_isWithdrawn 12 = .ok (.goto 4, 3) := by decide +kernel
theorem dX4_isWithdrawn_15 : decode cX4_isWithdrawn 15 = .ok (.iconst 0, 1) := by decide +kernel
theorem dX4_isWithdrawn_16 : decode cX4_isWithdrawn 16 = .ok (.ireturn, 1) := by decide +kernel
theorem dX4_isRejected_0 : decode cX4_isRejected 0 = .ok (.aload_n 0, 1) := by decide +kernel
theorem dX4_isRejected_1 : decode cX4_isRejected 1 = .ok (.getfield 34, 3) := by decide +kernel
theorem dX4_isRejected_4 : decode cX4_isRejected 4 = .ok (.iload_n 1, 1) := by decide +kernel
theorem dX4_isRejected_5 : decode cX4_isRejected 5 = .ok (.aaload, 1) := by decide +kernel
theorem dX4_isRejected_6 : decode cX4_isRejected 6 = .ok (.getfield 155, 3) := by decide +kernel
theorem dX4_isRejected_9 : decode cX4_isRejected 9 = .ok (.istore_n 2, 1) := by decide +kernel
theorem dX4_isRejected_10 : decode cX4_isRejected 10 = .ok (.aload_n 0, 1) := by decide +kernel
theorem dX4_isRejected_11 : decode cX4_isRejected 11 = .ok (.getfield 12, 3) := by decide +kernel
theorem dX4_isRejected_14 : decode cX4_isRejected 14 = .ok (.invokevirtual 122, 3) := by decide +kernel
theorem dX4_isRejected_17 : decode cX4_isRejected 17 = .ok (.ifCond .ne 16, 3) := by decide +kernel
theorem dX4_isRejected_20 : decode cX4_isRejected 20 = .ok (.iload_n 2, 1) := by decide +kernel
theorem dX4_isRejected_21 : decode cX4_isRejected 21 = .ok (.ifCond .eq 12, 3) := by decide +kernel
theorem dX4_isRejected_24 : decode cX4_isRejected 24 = .ok (.iload_n 2, 1) := by decide +kernel
theorem dX4_isRejected_25 : decode cX4_isRejected 25 = .ok (.iconst 1, 1) := by decide +kernel
theorem dX4_isRejected_26 : decode cX4_isRejected 26 = .ok (.if_icmp .eq 7, 3) := by decide +kernel
theorem dX4_isRejected_29 : decode cX4_isRejected 29 = .ok (.iconst 1, 1) := by decide +kernel
theorem dX4_isRejected_30 : decode cX4_isRejected 30 = .ok (.goto 4, 3) := by decide +kernel
theorem dX4_isRejected_33 : decode cX4_isRejected 33 = .ok (.iconst 0, 1) := by decide +kernel
theorem dX4_isRejected_34 : decode cX4_isRejected 34 = .ok (.ireturn, 1) := by decide +kernel
theorem dX4_canReplace_0 : decode cX4_canReplace 0 = .ok (.aload_n 0, 1) := by decide +kernel
theorem dX4_canReplace_1 : decode cX4_canReplace 1 = .ok (.getfield 34, 3) := by decide +kernel
theorem dX4_canReplace_4 : decode cX4_canReplace 4 = .ok (.iload_n 1, 1) := by decide +kernel
theorem dX4_canReplace_5 : decode cX4_canReplace 5 = .ok (.aaload, 1) := by decide +kernel
theorem dX4_canReplace_6 : decode cX4_canReplace 6 = .ok (.astore_n 2, 1) := by decide +kernel
theorem dX4_canReplace_7 : decode cX4_canReplace 7 = .ok (.aload_n 2, 1) := by decide +kernel
theorem dX4_canReplace_8 : decode cX4_canReplace 8 = .ok (.getfield 193, 3) := by decide +kernel
theorem dX4_canReplace_11 : decode cX4_canReplace 11 = .ok (.iconst (-1), 1) := by decide +kernel
theorem dX4_canReplace_12 : decode cX4_canReplace 12 = .ok (.if_icmp .eq 58, 3) := by decide +kernel
theorem dX4_canReplace_15 : decode cX4_canReplace 15 = .ok (.aload_n 0, 1) := by decide +kernel
theorem dX4_canReplace_16 : decode cX4_canReplace 16 = .ok (.iload_n 1, 1) := by decide +kernel
theorem dX4_canReplace_17 : decode cX4_canReplace 17 = .ok (.invokevirtual 177, 3) := by decide +kernel
theorem dX4_canReplace_20 : decode cX4_canReplace 20 = .ok (.ifCond .ne 50, 3) := by decide +kernel
theorem dX4_canReplace_23 : decode cX4_canReplace 23 = .ok (.aload_n 0, 1) := by decide +kernel
theorem dX4_canReplace_24 : decode cX4_canReplace 24 = .ok (.iload_n 1, 1) := by decide +kernel
theorem dX4_canReplace_25 : decode cX4_canReplace 25 = .ok (.invokevirtual 196, 3) := by decide +kernel
theorem dX4_canReplace_28 : decode cX4_canReplace 28 = .ok (.ifCond .ne 42, 3) := by decide +kernel
theorem dX4_canReplace_31 : decode cX4_canReplace 31 = .ok (.aload_n 2, 1) := by decide +kernel
theorem dX4_canReplace_32 : decode cX4_canReplace 32 = .ok (.getfield 199, 3) := by decide +kernel
theorem dX4_canReplace_35 : decode cX4_canReplace 35 = .ok (.iconst 2, 1) := by decide +kernel
theorem dX4_canReplace_36 : decode cX4_canReplace 36 = .ok (.if_icmp .ge 34, 3) := by decide +kernel
theorem dX4_canReplace_39 : decode cX4_canReplace 39 = .ok (.aload_n 0, 1) := by decide +kernel
theorem dX4_canReplace_40 : decode cX4_canReplace 40 = .ok (.getfield 12, 3) := by decide +kernel
theorem dX4_canReplace_43 : decode cX4_canReplace 43 = .ok (.invokevirtual 202, 3) := by decide +kernel
theorem dX4_canReplace_46 : decode cX4_canReplace 46 = .ok (.ifCond .eq 24, 3) := by decide +kernel
theorem dX4_canReplace_49 : decode cX4_canReplace 49 = .ok (.aload_n 0, 1) := by decide +kernel
theorem dX4_canReplace_50 : decode cX4_canReplace 50 = .ok (.getfield 12, 3) := by decide +kernel
theorem dX4_canReplace_53 : decode cX4_canReplace 53 = .ok (.invokevirtual 122, 3) := by decide +kernel
theorem dX4_canReplace_56 : decode cX4_canReplace 56 = .ok (.ifCond .ne 10, 3) := by decide +kernel
theorem dX4_canReplace_59 : decode cX4_canReplace 59 = .ok (.aload_n 2, 1) := by decide +kernel
theorem dX4_canReplace_60 : decode cX4_canReplace 60 = .ok (.getfield 129, 3) := by decide +kernel
theorem dX4_canReplace_63 : decode cX4_canReplace 63 = .ok (.ifCond .eq 7, 3) := by decide +kernel
theorem dX4_canReplace_66 : decode cX4_canReplace 66 = .ok (.iconst 1, 1) := by decide +kernel
theorem dX4_canReplace_67 : decode cX4_canReplace 67 = .ok (.goto 4, 3) := by decide +kernel
theorem dX4_canReplace_70 : decode cX4_canReplace 70 = .ok (.iconst 0, 1) := by decide +kernel
theorem dX4_canReplace_71 : decode cX4_canReplace 71 = .ok (.ireturn, 1) := by decide +kernel
theorem dX4_whyNotStanding_0 : decode cX4_whyNotStanding 0 = .ok (.aload_n 0, 1) := by decide +kernel
theorem dX4_whyNotStanding_1 : decode cX4_whyNotStanding 1 = .ok (.getfield 34, 3) := by decide +kernel
theorem dX4_whyNotStanding_4 : decode cX4_whyNotStanding 4 = .ok (.iload_n 1, 1) := by decide +kernel
theorem dX4_whyNotStanding_5 : decode cX4_whyNotStanding 5 = .ok (.aaload, 1) := by decide +kernel
theorem dX4_whyNotStanding_6 : decode cX4_whyNotStanding 6 = .ok (.astore_n 2, 1) := by decide +kernel
theorem dX4_whyNotStanding_7 : decode cX4_whyNotStanding 7 = .ok (.aload_n 0, 1) := by decide +kernel
theorem dX4_whyNotStanding_8 : decode cX4_whyNotStanding 8 = .ok (.iload_n 1, 1) := by decide +kernel
theorem dX4_whyNotStanding_9 : decode cX4_whyNotStanding 9 = .ok (.invokevirtual 177, 3) := by decide +kernel
theorem dX4_whyNotStanding_12 : decode cX4_whyNotStanding 12 = .ok (.ifCond .eq 5, 3) := by decide +kernel
theorem dX4_whyNotStanding_15 : decode cX4_whyNotStanding 15 = .ok (.iconst 1, 1) := by decide +kernel
theorem dX4_whyNotStanding_16 : decode cX4_whyNotStanding 16 = .ok (.ireturn, 1) := by decide +kernel
theorem dX4_whyNotStanding_17 : decode cX4_whyNotStanding 17 = .ok (.aload_n 2, 1) := by decide +kernel
theorem dX4_whyNotStanding_18 : decode cX4_whyNotStanding 18 = .ok (.getfield 155, 3) := by decide +kernel
theorem dX4_whyNotStanding_21 : decode cX4_whyNotStanding 21 = .ok (.ifCond .eq 8, 3) := by decide +kernel
theorem dX4_whyNotStanding_24 : decode cX4_whyNotStanding 24 = .ok (.aload_n 2, 1) := by decide +kernel
theorem dX4_whyNotStanding_25 : decode cX4_whyNotStanding 25 = .ok (.getfield 155, 3) := by decide +kernel
theorem dX4_whyNotStanding_28 : decode cX4_whyNotStanding 28 = .ok (.ireturn, 1) := by decide +kernel
theorem dX4_whyNotStanding_29 : decode cX4_whyNotStanding 29 = .ok (.aload_n 2, 1) := by decide +kernel
theorem dX4_whyNotStanding_30 : decode cX4_whyNotStanding 30 = .ok (.getfield 129, 3) := by decide +kernel
theorem dX4_whyNotStanding_33 : decode cX4_whyNotStanding 33 = .ok (.ifCond .eq 7, 3) := by decide +kernel
theorem dX4_whyNotStanding_36 : decode cX4_whyNotStanding 36 = .ok (.iconst 5, 1) := by decide +kernel
theorem dX4_whyNotStanding_37 : decode cX4_whyNotStanding 37 = .ok (.goto 4, 3) := by decide +kernel
theorem dX4_whyNotStanding_40 : decode cX4_whyNotStanding 40 = .ok (.iconst 0, 1) := by decide +kernel
theorem dX4_whyNotStanding_41 : decode cX4_whyNotStanding 41 = .ok (.ireturn, 1) := by decide +kernel
theorem dX4_countOfOthers_0 : decode cX4_countOfOthers 0 = .ok (.iconst 0, 1) := by decide +kernel
theorem dX4_countOfOthers_1 : decode cX4_countOfOthers 1 = .ok (.istore_n 2, 1) := by decide +kernel
theorem dX4_countOfOthers_2 : decode cX4_countOfOthers 2 = .ok (.iconst 0, 1) := by decide +kernel
theorem dX4_countOfOthers_3 : decode cX4_countOfOthers 3 = .ok (.istore_n 3, 1) := by decide +kernel
theorem dX4_countOfOthers_4 : decode cX4_countOfOthers 4 = .ok (.iload_n 3, 1) := by decide +kernel
theorem dX4_countOfOthers_5 : decode cX4_countOfOthers 5 = .ok (.aload_n 0, 1) := by decide +kernel
theorem dX4_countOfOthers_6 : decode cX4_countOfOthers 6 = .ok (.getfield 56, 3) := by decide +kernel
theorem dX4_countOfOthers_9 : decode cX4_countOfOthers 9 = .ok (.if_icmp .ge 26, 3) := by decide +kernel
theorem dX4_countOfOthers_12 : decode cX4_countOfOthers 12 = .ok (.iload_n 3, 1) := by decide +kernel
theorem dX4_countOfOthers_13 : decode cX4_countOfOthers 13 = .ok (.iload_n 1, 1) := by decide +kernel
theorem dX4_countOfOthers_14 : decode cX4_countOfOthers 14 = .ok (.if_icmp .eq 15, 3) := by decide +kernel
theorem dX4_countOfOthers_17 : decode cX4_countOfOthers 17 = .ok (.iload_n 2, 1) := by decide +kernel
theorem dX4_countOfOthers_18 : decode cX4_countOfOthers 18 = .ok (.aload_n 0, 1) := by decide +kernel
theorem dX4_countOfOthers_19 : decode cX4_countOfOthers 19 = .ok (.getfield 34, 3) := by decide +kernel
theorem dX4_countOfOthers_22 : decode cX4_countOfOthers 22 = .ok (.iload_n 3, 1) := by decide +kernel
theorem dX4_countOfOthers_23 : decode cX4_countOfOthers 23 = .ok (.aaload, 1) := by decide +kernel
theorem dX4_countOfOthers_24 : decode cX4_countOfOthers 24 = .ok (.getfield 158, 3) := by decide +kernel
theorem dX4_countOfOthers_27 : decode cX4_countOfOthers 27 = .ok (.iadd, 1) := by decide +kernel
theorem dX4_countOfOthers_28 : decode cX4_countOfOthers 28 = .ok (.istore_n 2, 1) := by decide +kernel
theorem dX4_countOfOthers_29 : decode cX4_countOfOthers 29 = .ok (.iinc 3 1, 3) := by decide +kernel
theorem dX4_countOfOthers_32 : decode cX4_countOfOthers 32 = .ok (.goto (-28), 3) := by decide +kernel
theorem dX4_countOfOthers_35 : decode cX4_countOfOthers 35 = .ok (.iload_n 2, 1) := by decide +kernel
theorem dX4_countOfOthers_36 : decode cX4_countOfOthers 36 = .ok (.ireturn, 1) := by decide +kernel
theorem dX4_wouldSupport_0 : decode cX4_wouldSupport 0 = .ok (.aload_n 0, 1) := by decide +kernel
theorem dX4_wouldSupport_1 : decode cX4_wouldSupport 1 = .ok (.getfield 21, 3) := by decide +kernel
theorem dX4_wouldSupport_4 : decode cX4_wouldSupport 4 = .ok (.getfield 84, 3) := by decide +kernel
theorem dX4_wouldSupport_7 : decode cX4_wouldSupport 7 = .ok (.iload_n 2, 1) := by decide +kernel
theorem dX4_wouldSupport_8 : decode cX4_wouldSupport 8 = .ok (.aaload, 1) := by decide +kernel
theorem dX4_wouldSupport_9 : decode cX4_wouldSupport 9 = .ok (.astore_n 3, 1) := by decide +kernel
theorem dX4_wouldSupport_10 : decode cX4_wouldSupport 10 = .ok (.aload_n 3, 1) := by decide +kernel
theorem dX4_wouldSupport_11 : decode cX4_wouldSupport 11 = .ok (.getfield 93, 3) := by decide +kernel
theorem dX4_wouldSupport_14 : decode cX4_wouldSupport 14 = .ok (.ifCond .eq 37, 3) := by decide +kernel
theorem dX4_wouldSupport_17 : decode cX4_wouldSupport 17 = .ok (.aload_n 3, 1) := by decide +kernel
theorem dX4_wouldSupport_18 : decode cX4_wouldSupport 18 = .ok (.getfield 88, 3) := by decide +kernel
theorem dX4_wouldSupport_21 : decode cX4_wouldSupport 21 = .ok (.aload_n 0, 1) := by decide +kernel
theorem dX4_wouldSupport_22 : decode cX4_wouldSupport 22 = .ok (.getfield 34, 3) := by decide +kernel
theorem dX4_wouldSupport_25 : decode cX4_wouldSupport 25 = .ok (.iload_n 1, 1) := by decide +kernel
theorem dX4_wouldSupport_26 : decode cX4_wouldSupport 26 = .ok (.aaload, 1) := by decide +kernel
theorem dX4_wouldSupport_27 : decode cX4_wouldSupport 27 = .ok (.getfield 141, 3) := by decide +kernel
theorem dX4_wouldSupport_30 : decode cX4_wouldSupport 30 = .ok (.if_icmp .ne 21, 3) := by decide +kernel
theorem dX4_wouldSupport_33 : decode cX4_wouldSupport 33 = .ok (.aload_n 3, 1) := by decide +kernel
theorem dX4_wouldSupport_34 : decode cX4_wouldSupport 34 = .ok (.getfield 142, 3) := by decide +kernel
theorem dX4_wouldSupport_37 : decode cX4_wouldSupport 37 = .ok (.aload_n 0, 1) := by decide +kernel
theorem dX4_wouldSupport_38 : decode cX4_wouldSupport 38 = .ok (.getfield 63, 3) := by decide +kernel
theorem dX4_wouldSupport_41 : decode cX4_wouldSupport 41 = .ok (.iconst (-1), 1) := by decide +kernel
theorem dX4_wouldSupport_42 : decode cX4_wouldSupport 42 = .ok (.ixor, 1) := by decide +kernel
theorem dX4_wouldSupport_43 : decode cX4_wouldSupport 43 = .ok (.iand, 1) := by decide +kernel
theorem dX4_wouldSupport_44 : decode cX4_wouldSupport 44 = .ok (.ifCond .ne 7, 3) := by decide +kernel
theorem dX4_wouldSupport_47 : decode cX4_wouldSupport 47 = .ok (.iconst 1, 1) := by decide +kernel
theorem dX4_wouldSupport_48 : decode cX4_wouldSupport 48 = .ok (.goto 4, 3) := by decide +kernel
theorem dX4_wouldSupport_51 : decode cX4_wouldSupport 51 = .ok (.iconst 0, 1) := by decide +kernel
theorem dX4_wouldSupport_52 : decode cX4_wouldSupport 52 = .ok (.ireturn, 1) := by decide +kernel
theorem dX4_supportedBy_0 : decode cX4_supportedBy 0 = .ok (.iconst 0, 1) := by decide +kernel
theorem dX4_supportedBy_1 : decode cX4_supportedBy 1 = .ok (.istore_n 2, 1) := by decide +kernel
theorem dX4_supportedBy_2 : decode cX4_supportedBy 2 = .ok (.iload_n 2, 1) := by decide +kernel
theorem dX4_supportedBy_3 : decode cX4_supportedBy 3 = .ok (.aload_n 0, 1) := by decide +kernel
theorem dX4_supportedBy_4 : decode cX4_supportedBy 4 = .ok (.getfield 60, 3) := by decide +kernel
theorem dX4_supportedBy_7 : decode cX4_supportedBy 7 = .ok (.if_icmp .ge 44, 3) := by decide +kernel
theorem dX4_supportedBy_10 : decode cX4_supportedBy 10 = .ok (.aload_n 0, 1) := by decide +kernel
theorem dX4_supportedBy_11 : decode cX4_supportedBy 11 = .ok (.getfield 40, 3) := by decide +kernel
theorem dX4_supportedBy_14 : decode cX4_supportedBy 14 = .ok (.iload_n 2, 1) := by decide +kernel
theorem dX4_supportedBy_15 : decode cX4_supportedBy 15 = .ok (.aaload, 1) := by decide +kernel
theorem dX4_supportedBy_16 : decode cX4_supportedBy 16 = .ok (.getfield 174, 3) := by decide +kernel
theorem dX4_supportedBy_19 : decode cX4_supportedBy 19 = .ok (.iload_n 1, 1) := by decide +kernel
theorem dX4_supportedBy_20 : decode cX4_supportedBy 20 = .ok (.if_icmp .ne 25, 3) := by decide +kernel
theorem dX4_supportedBy_23 : decode cX4_supportedBy 23 = .ok (.aload_n 0, 1) := by decide +kernel
theorem dX4_supportedBy_24 : decode cX4_supportedBy 24 = .ok (.getfield 40, 3) := by decide +kernel
theorem dX4_supportedBy_27 : decode cX4_supportedBy 27 = .ok (.iload_n 2, 1) := by decide +kernel
theorem dX4_supportedBy_28 : decode cX4_supportedBy 28 = .ok (.aaload, 1) := by decide +kernel
theorem dX4_supportedBy_29 : decode cX4_supportedBy 29 = .ok (.getfield 165, 3) := by decide +kernel
theorem dX4_supportedBy_32 : decode cX4_supportedBy 32 = .ok (.ifCond .ne 13, 3) := by decide +kernel
theorem dX4_supportedBy_35 : decode cX4_supportedBy 35 = .ok (.aload_n 0, 1) := by decide +kernel
theorem dX4_supportedBy_36 : decode cX4_supportedBy 36 = .ok (.getfield 40, 3) := by decide +kernel
theorem dX4_supportedBy_39 : decode cX4_supportedBy 39 = .ok (.iload_n 2, 1) := by decide +kernel
theorem dX4_supportedBy_40 : decode cX4_supportedBy 40 = .ok (.aaload, 1) := by decide +kernel
theorem dX4_supportedBy_41 : decode cX4_supportedBy 41 = .ok (.getfield 168, 3) := by decide +kernel
theorem dX4_supportedBy_44 : decode cX4_supportedBy 44 = .ok (.ireturn, 1) := by decide +kernel
theorem dX4_supportedBy_45 : decode cX4_supportedBy 45 = .ok (.iinc 2 1, 3) := by decide +kernel
theorem dX4_supportedBy_48 : decode cX4_supportedBy 48 = .ok (.goto (-46), 3) := by decide +kernel
theorem dX4_supportedBy_51 : decode cX4_supportedBy 51 = .ok (.iconst (-1), 1) := by decide +kernel
theorem dX4_supportedBy_52 : decode cX4_supportedBy 52 = .ok (.ireturn, 1) := by decide +kernel
theorem dX4_freedBy_0 : decode cX4_freedBy 0 = .ok (.aload_n 0, 1) := by decide +kernel
theorem dX4_freedBy_1 : decode cX4_freedBy 1 = .ok (.iload_n 1, 1) := by decide +kernel
theorem dX4_freedBy_2 : decode cX4_freedBy 2 = .ok (.invokevirtual 205, 3) := by decide +kernel
theorem dX4_freedBy_5 : decode cX4_freedBy 5 = .ok (.istore_n 3, 1) := by decide +kernel
theorem dX4_freedBy_6 : decode cX4_freedBy 6 = .ok (.aload_n 0, 1) := by decide +kernel
theorem dX4_freedBy_7 : decode cX4_freedBy 7 = .ok (.iload_n 3, 1) := by decide +kernel
theorem dX4_freedBy_8 : decode cX4_freedBy 8 = .ok (.iconst 1, 1) := by decide +kernel
theorem dX4_freedBy_9 : decode cX4_freedBy 9 = .ok (.iload_n 2, 1) := by decide +kernel
theorem dX4_freedBy_10 : decode cX4_freedBy 10 = .ok (.ishl, 1) := by decide +kernel
theorem dX4_freedBy_11 : decode cX4_freedBy 11 = .ok (.invokevirtual 208, 3) := by decide +kernel
theorem dX4_freedBy_14 : decode cX4_freedBy 14 = .ok (.aload_n 0, 1) := by decide +kernel
theorem dX4_freedBy_15 : decode cX4_freedBy 15 = .ok (.iload_n 3, 1) := by decide +kernel
theorem dX4_freedBy_16 : decode cX4_freedBy 16 = .ok (.iconst 0, 1) := by decide +kernel
theorem dX4_freedBy_17 : decode cX4_freedBy 17 = .ok (.invokevirtual 208, 3) := by decide +kernel
theorem dX4_freedBy_20 : decode cX4_freedBy 20 = .ok (.isub, 1) := by decide +kernel
theorem dX4_freedBy_21 : decode cX4_freedBy 21 = .ok (.ireturn, 1) := by decide +kernel
theorem dX4_smallestSetFor_0 : decode cX4_smallestSetFor 0 = .ok (.aload_n 0, 1) := by decide +kernel
theorem dX4_smallestSetFor_1 : decode cX4_smallestSetFor 1 = .ok (.getfield 21, 3) := by decide +kernel
theorem dX4_smallestSetFor_4 : decode cX4_smallestSetFor 4 = .ok (.getfield 100, 3) := by decide +kernel
theorem dX4_smallestSetFor_7 : decode cX4_smallestSetFor 7 = .ok (.aload_n 0, 1) := by decide +kernel
theorem dX4_smallestSetFor_8 : decode cX4_smallestSetFor 8 = .ok (.getfield 34, 3) := by decide +kernel
theorem dX4_smallestSetFor_11 : decode cX4_smallestSetFor 11 = .ok (.iload_n 1, 1) := by decide +kernel
theorem dX4_smallestSetFor_12 : decode cX4_smallestSetFor 12 = .ok (.aaload, 1) := by decide +kernel
theorem dX4_smallestSetFor_13 : decode cX4_smallestSetFor 13 = .ok (.getfield 141, 3) := by decide +kernel
theorem dX4_smallestSetFor_16 : decode cX4_smallestSetFor 16 = .ok (.aaload, 1) := by decide +kernel
theorem dX4_smallestSetFor_17 : decode cX4_smallestSetFor 17 = .ok (.getfield 187, 3) := by decide +kernel
theorem dX4_smallestSetFor_20 : decode cX4_smallestSetFor 20 = .ok (.istore_n 2, 1) := by decide +kernel
theorem dX4_smallestSetFor_21 : decode cX4_smallestSetFor 21 = .ok (.aload_n 0, 1) := by decide +kernel
theorem dX4_smallestSetFor_22 : decode cX4_smallestSetFor 22 = .ok (.iload_n 1, 1) := by decide +kernel
theorem dX4_smallestSetFor_23 : decode cX4_smallestSetFor 23 = .ok (.invokevirtual 205, 3) := by decide +kernel
theorem dX4_smallestSetFor_26 : decode cX4_smallestSetFor 26 = .ok (.istore_n 3, 1) := by decide +kernel
theorem dX4_smallestSetFor_27 : decode cX4_smallestSetFor 27 = .ok (.aload_n 0, 1) := by decide +kernel
theorem dX4_smallestSetFor_28 : decode cX4_smallestSetFor 28 = .ok (.iload_n 3, 1) := by decide +kernel
theorem dX4_smallestSetFor_29 : decode cX4_smallestSetFor 29 = .ok (.invokevirtual 212, 3) := by decide +kernel
theorem dX4_smallestSetFor_32 : decode cX4_smallestSetFor 32 = .ok (.istore 4, 2) := by decide +kernel
theorem dX4_smallestSetFor_34 : decode cX4_smallestSetFor 34 = .ok (.iconst (-1), 1) := by decide +kernel
theorem dX4_smallestSetFor_35 : decode cX4_smallestSetFor 35 = .ok (.istore 5, 2) := by decide +kernel
theorem dX4_smallestSetFor_37 : decode cX4_smallestSetFor 37 = .ok (.bipush 13, 2) := by decide +kernel
theorem dX4_smallestSetFor_39 : decode cX4_smallestSetFor 39 = .ok (.istore 6, 2) := by decide +kernel
theorem dX4_smallestSetFor_41 : decode cX4_smallestSetFor 41 = .ok (.iconst 0, 1) := by decide +kernel
theorem dX4_smallestSetFor_42 : decode cX4_smallestSetFor 42 = .ok (.istore 7, 2) := by decide +kernel
theorem dX4_smallestSetFor_44 : decode cX4_smallestSetFor 44 = .ok (.iload 7, 2) := by decide +kernel
theorem dX4_smallestSetFor_46 : decode cX4_smallestSetFor 46 = .ok (.iload 4, 2) := by decide +kernel
theorem dX4_smallestSetFor_48 : decode cX4_smallestSetFor 48 = .ok (.if_icmp .gt 51, 3) := by decide +kernel
theorem dX4_smallestSetFor_51 : decode cX4_smallestSetFor 51 = .ok (.iload 7, 2) := by decide +kernel
theorem dX4_smallestSetFor_53 : decode cX4_smallestSetFor 53 = .ok (.iload 4, 2) := by decide +kernel
theorem dX4_smallestSetFor_55 : decode cX4_smallestSetFor 55 = .ok (.iconst (-1), 1) := by decide +kernel
theorem dX4_smallestSetFor_56 : decode cX4_smallestSetFor 56 = .ok (.ixor, 1) := by decide +kernel
theorem dX4_smallestSetFor_57 : decode cX4_smallestSetFor 57 = .ok (.iand, 1) := by decide +kernel
theorem dX4_smallestSetFor_58 : decode cX4_smallestSetFor 58 = .ok (.ifCond .ne 35, 3) := by decide +kernel
theorem dX4_smallestSetFor_61 : decode cX4_smallestSetFor 61 = .ok (.iload 7, 2) := by decide +kernel
theorem dX4_smallestSetFor_63 : decode cX4_smallestSetFor 63 = .ok (.invokestatic 215, 3) := by decide +kernel
theorem dX4_smallestSetFor_66 : decode cX4_smallestSetFor 66 = .ok (.iload 6, 2) := by decide +kernel
theorem dX4_smallestSetFor_68 : decode cX4_smallestSetFor 68 = .ok (.if_icmp .ge 25, 3) := by decide +kernel
theorem dX4_smallestSetFor_71 : decode cX4_smallestSetFor 71 = .ok (.aload_n 0, 1) := by decide +kernel
theorem dX4_smallestSetFor_72 : decode cX4_smallestSetFor 72 = .ok (.iload_n 3, 1) := by decide +kernel
theorem dX4_smallestSetFor_73 : decode cX4_smallestSetFor 73 = .ok (.iload 7, 2) := by decide +kernel
theorem dX4_smallestSetFor_75 : decode cX4_smallestSetFor 75 = .ok (.invokevirtual 208, 3) := by decide +kernel
theorem dX4_smallestSetFor_78 : decode cX4_smallestSetFor 78 = .ok (.iload_n 2, 1) := by decide +kernel
theorem dX4_smallestSetFor_79 : decode cX4_smallestSetFor 79 = .ok (.if_icmp .lt 14, 3) := by decide +kernel
theorem dX4_smallestSetFor_82 : decode cX4_smallestSetFor 82 = .ok (.iload 7, 2) := by decide +kernel
theorem dX4_smallestSetFor_84 : decode cX4_smallestSetFor 84 = .ok (.istore 5, 2) := by decide +kernel
theorem dX4_smallestSetFor_86 : decode cX4_smallestSetFor 86 = .ok (.iload 7, 2) := by decide +kernel
theorem dX4_smallestSetFor_88 : decode cX4_smallestSetFor 88 = .ok (.invokestatic 215, 3) := by decide +kernel
theorem dX4_smallestSetFor_91 : decode cX4_smallestSetFor 91 = .ok (.istore 6, 2) := by decide +kernel
theorem dX4_smallestSetFor_93 : decode cX4_smallestSetFor 93 = .ok (.iinc 7 1, 3) := by decide +kernel
theorem dX4_smallestSetFor_96 : decode cX4_smallestSetFor 96 = .ok (.goto (-52), 3) := by decide +kernel
theorem dX4_smallestSetFor_99 : decode cX4_smallestSetFor 99 = .ok (.iload 5, 2) := by decide +kernel
theorem dX4_smallestSetFor_101 : decode cX4_smallestSetFor 101 = .ok (.ireturn, 1) := by decide +kernel
theorem dX4_gatherBlockers_0 : decode cX4_gatherBlockers 0 = .ok (.iconst 0, 1) := by decide +kernel
theorem dX4_gatherBlockers_1 : decode cX4_gatherBlockers 1 = .ok (.istore_n 2, 1) := by decide +kernel
theorem dX4_gatherBlockers_2 : decode cX4_gatherBlockers 2 = .ok (.iconst 0, 1) := by decide +kernel
theorem dX4_gatherBlockers_3 : decode cX4_gatherBlockers 3 = .ok (.istore_n 3, 1) := by decide +kernel
theorem dX4_gatherBlockers_4 : decode cX4_gatherBlockers 4 = .ok (.iload_n 3, 1) := by decide +kernel
theorem dX4_gatherBlockers_5 : decode cX4_gatherBlockers 5 = .ok (.aload_n 0, 1) := by decide +kernel
theorem dX4_gatherBlockers_6 : decode cX4_gatherBlockers 6 = .ok (.getfield 60, 3) := by decide +kernel
theorem dX4_gatherBlockers_9 : decode cX4_gatherBlockers 9 = .ok (.if_icmp .ge 86, 3) := by decide +kernel
theorem dX4_gatherBlockers_12 : decode cX4_gatherBlockers 12 = .ok (.aload_n 0, 1) := by decide +kernel
theorem dX4_gatherBlockers_13 : decode cX4_gatherBlockers 13 = .ok (.getfield 40, 3) := by decide +kernel
theorem dX4_gatherBlockers_16 : decode cX4_gatherBlockers 16 = .ok (.iload_n 3, 1) := by decide +kernel
theorem dX4_gatherBlockers_17 : decode cX4_gatherBlockers 17 = .ok (.aaload, 1) := by decide +kernel
theorem dX4_gatherBlockers_18 : decode cX4_gatherBlockers 18 = .ok (.astore 4, 2) := by decide +kernel
theorem dX4_gatherBlockers_20 : decode cX4_gatherBlockers 20 = .ok (.aload 4, 2) := by decide +kernel
theorem dX4_gatherBlockers_22 : decode cX4_gatherBlockers 22 = .ok (.getfield 168, 3) := by decide +kernel
theorem dX4_gatherBlockers_25 : decode cX4_gatherBlockers 25 = .ok (.iload_n 1, 1) := by decide +kernel
theorem dX4_gatherBlockers_26 : decode cX4_gatherBlockers 26 = .ok (.if_icmp .ne 63, 3) := by decide +kernel
theorem dX4_gatherBlockers_29 : decode cX4_gatherBlockers 29 = .ok (.aload 4, 2) := by decide +kernel
theorem dX4_gatherBlockers_31 : decode cX4_gatherBlockers 31 = .ok (.getfield 171, 3) := by decide +kernel
theorem dX4_gatherBlockers_34 : decode cX4_gatherBlockers 34 = .ok (.ifCond .eq 55, 3) := by decide +kernel
theorem dX4_gatherBlockers_37 : decode cX4_gatherBlockers 37 = .ok (.aload_n 0, 1) := by decide +kernel
theorem dX4_gatherBlockers_38 : decode cX4_gatherBlockers 38 = .ok (.getfield 21, 3) := by decide +kernel
theorem dX4_gatherBlockers_41 : decode cX4_gatherBlockers 41 = .ok (.getfield 84, 3) := by decide +kernel
theorem dX4_gatherBlockers_44 : decode cX4_gatherBlockers 44 = .ok (.aload 4, 2) := by decide +kernel
theorem dX4_gatherBlockers_46 : decode cX4_gatherBlockers 46 = .ok (.getfield 174, 3) := by decide +kernel
theorem dX4_gatherBlockers_49 : decode cX4_gatherBlockers 49 = .ok (.aaload, 1) := by decide +kernel
theorem dX4_gatherBlockers_50 : decode cX4_gatherBlockers 50 = .ok (.getfield 93, 3) := by decide +kernel
theorem dX4_gatherBlockers_53 : decode cX4_gatherBlockers 53 = .ok (.ifCond .eq 36, 3) := by decide +kernel
theorem dX4_gatherBlockers_56 : decode cX4_gatherBlockers 56 = .ok (.aload 4, 2) := by decide +kernel
theorem dX4_gatherBlockers_58 : decode cX4_gatherBlockers 58 = .ok (.getfield 181, 3) := by decide +kernel
theorem dX4_gatherBlockers_61 : decode cX4_gatherBlockers 61 = .ok (.iconst 1, 1) := by decide +kernel
theorem dX4_gatherBlockers_62 : decode cX4_gatherBlockers 62 = .ok (.iload_n 1, 1) := by decide +kernel
theorem dX4_gatherBlockers_63 : decode cX4_gatherBlockers 63 = .ok (.ishl, 1) := by decide +kernel
theorem dX4_gatherBlockers_64 : decode cX4_gatherBlockers 64 = .ok (.iand, 1) := by decide +kernel
theorem dX4_gatherBlockers_65 : decode cX4_gatherBlockers 65 = .ok (.ifCond .ne 24, 3) := by decide +kernel
theorem dX4_gatherBlockers_68 : decode cX4_gatherBlockers 68 = .ok (.aload_n 0, 1) := by decide +kernel
theorem dX4_gatherBlockers_69 : decode cX4_gatherBlockers 69 = .ok (.getfield 44, 3) := by decide +kernel
theorem dX4_gatherBlockers_72 : decode cX4_gatherBlockers 72 = .ok (.iload_n 2, 1) := by decide +kernel
theorem dX4_gatherBlockers_73 : decode cX4_gatherBlockers 73 = .ok (.aload 4, 2) := by decide +kernel
theorem dX4_gatherBlockers_75 : decode cX4_gatherBlockers 75 = .ok (.getfield 181, 3) := by decide +kernel
theorem dX4_gatherBlockers_78 : decode cX4_gatherBlockers 78 = .ok (.aload_n 0, 1) := by decide +kernel
theorem dX4_gatherBlockers_79 : decode cX4_gatherBlockers 79 = .ok (.getfield 63, 3) := by decide +kernel
theorem dX4_gatherBlockers_82 : decode cX4_gatherBlockers 82 = .ok (.iconst (-1), 1) := by decide +kernel
theorem dX4_gatherBlockers_83 : decode cX4_gatherBlockers 83 = .ok (.ixor, 1) := by decide +kernel
theorem dX4_gatherBlockers_84 : decode cX4_gatherBlockers 84 = .ok (.iand, 1) := by decide +kernel
theorem dX4_gatherBlockers_85 : decode cX4_gatherBlockers 85 = .ok (.iastore, 1) := by decide +kernel
theorem dX4_gatherBlockers_86 : decode cX4_gatherBlockers 86 = .ok (.iinc 2 1, 3) := by decide +kernel
theorem dX4_gatherBlockers_89 : decode cX4_gatherBlockers 89 = .ok (.iinc 3 1, 3) := by decide +kernel
theorem dX4_gatherBlockers_92 : decode cX4_gatherBlockers 92 = .ok (.goto (-88), 3) := by decide +kernel
theorem dX4_gatherBlockers_95 : decode cX4_gatherBlockers 95 = .ok (.iload_n 2, 1) := by decide +kernel
theorem dX4_gatherBlockers_96 : decode cX4_gatherBlockers 96 = .ok (.ireturn, 1) := by decide +kernel
theorem dX4_allBlockers_0 : decode cX4_allBlockers 0 = .ok (.iconst 0, 1) := by decide +kernel
theorem dX4_allBlockers_1 : decode cX4_allBlockers 1 = .ok (.istore_n 2, 1) := by decide +kernel
theorem dX4_allBlockers_2 : decode cX4_allBlockers 2 = .ok (.iconst 0, 1) := by decide +kernel
theorem dX4_allBlockers_3 : decode cX4_allBlockers 3 = .ok (.istore_n 3, 1) := by decide +kernel
theorem dX4_allBlockers_4 : decode cX4_allBlockers 4 = .ok (.iload_n 3, 1) := by decide +kernel
theorem dX4_allBlockers_5 : decode cX4_allBlockers 5 = .ok (.iload_n 1, 1) := by decide +kernel
theorem dX4_allBlockers_6 : decode cX4_allBlockers 6 = .ok (.if_icmp .ge 18, 3) := by decide +kernel
theorem dX4_allBlockers_9 : decode cX4_allBlockers 9 = .ok (.iload_n 2, 1) := by decide +kernel
theorem dX4_allBlockers_10 : decode cX4_allBlockers 10 = .ok (.aload_n 0, 1) := by decide +kernel
theorem dX4_allBlockers_11 : decode cX4_allBlockers 11 = .ok (.getfield 44, 3) := by decide +kernel
theorem dX4_allBlockers_14 : decode cX4_allBlockers 14 = .ok (.iload_n 3, 1) := by decide +kernel
theorem dX4_allBlockers_15 : decode cX4_allBlockers 15 = .ok (.iaload, 1) := by decide +kernel
theorem dX4_allBlockers_16 : decode cX4_allBlockers 16 = .ok (.ior, 1) := by decide +kernel
theorem dX4_allBlockers_17 : decode cX4_allBlockers 17 = .ok (.istore_n 2, 1) := by decide +kernel
theorem dX4_allBlockers_18 : decode cX4_allBlockers 18 = .ok (.iinc 3 1, 3) := by decide +kernel
theorem dX4_allBlockers_21 : decode cX4_allBlockers 21 = .ok (.goto (-17), 3) := by decide +kernel
theorem dX4_allBlockers_24 : decode cX4_allBlockers 24 = .ok (.iload_n 2, 1) := by decide +kernel
theorem dX4_allBlockers_25 : decode cX4_allBlockers 25 = .ok (.ireturn, 1) := by decide +kernel
theorem dX4_countWithout_0 : decode cX4_countWithout 0 = .ok (.iconst 0, 1) := by decide +kernel
theorem dX4_countWithout_1 : decode cX4_countWithout 1 = .ok (.istore_n 3, 1) := by decide +kernel
theorem dX4_countWithout_2 : decode cX4_countWithout 2 = .ok (.iconst 0, 1) := by decide +kernel
theorem dX4_countWithout_3 : decode cX4_countWithout 3 = .ok (.istore 4, 2) := by decide +kernel
theorem dX4_countWithout_5 : decode cX4_countWithout 5 = .ok (.iload 4, 2) := by decide +kernel
theorem dX4_countWithout_7 : decode cX4_countWithout 7 = .ok (.iload_n 1, 1) := by decide +kernel
theorem dX4_countWithout_8 : decode cX4_countWithout 8 = .ok (.if_icmp .ge 26, 3) := by decide +kernel
theorem dX4_countWithout_11 : decode cX4_countWithout 11 = .ok (.aload_n 0, 1) := by decide +kernel
theorem dX4_countWithout_12 : decode cX4_countWithout 12 = .ok (.getfield 44, 3) := by decide +kernel
theorem dX4_countWithout_15 : decode cX4_countWithout 15 = .ok (.iload 4, 2) := by decide +kernel
theorem dX4_countWithout_17 : decode cX4_countWithout 17 = .ok (.iaload, 1) := by decide +kernel
theorem dX4_countWithout_18 : decode cX4_countWithout 18 = .ok (.iload_n 2, 1) := by decide +kernel
theorem dX4_countWithout_19 : decode cX4_countWithout 19 = .ok (.iconst (-1), 1) := by decide +kernel
theorem dX4_countWithout_20 : decode cX4_countWithout 20 = .ok (.ixor, 1) := by decide +kernel
theorem dX4_countWithout_21 : decode cX4_countWithout 21 = .ok (.iand, 1) := by decide +kernel
theorem dX4_countWithout_22 : decode cX4_countWithout 22 = .ok (.ifCond .ne 6, 3) := by decide +kernel
theorem dX4_countWithout_25 : decode cX4_countWithout 25 = .ok (.iinc 3 1, 3) := by decide +kernel
theorem dX4_countWithout_28 : decode cX4_countWithout 28 = .ok (.iinc 4 1, 3) := by decide +kernel
theorem dX4_countWithout_31 : decode cX4_countWithout 31 = .ok (.goto (-26), 3) := by decide +kernel
theorem dX4_countWithout_34 : decode cX4_countWithout 34 = .ok (.iload_n 3, 1) := by decide +kernel
theorem dX4_countWithout_35 : decode cX4_countWithout 35 = .ok (.ireturn, 1) := by decide +kernel
theorem dX4_standsIn_0 : decode cX4_standsIn 0 = .ok (.aload_n 0, 1) := by decide +kernel
theorem dX4_standsIn_1 : decode cX4_standsIn 1 = .ok (.getfield 34, 3) := by decide +kernel
theorem dX4_standsIn_4 : decode cX4_standsIn 4 = .ok (.iload_n 1, 1) := by decide +kernel
theorem dX4_standsIn_5 : decode cX4_standsIn 5 = .ok (.aaload, 1) := by decide +kernel
theorem dX4_standsIn_6 : decode cX4_standsIn 6 = .ok (.getfield 141, 3) := by decide +kernel
theorem dX4_standsIn_9 : decode cX4_standsIn 9 = .ok (.iload_n 2, 1) := by decide +kernel
theorem dX4_standsIn_10 : decode cX4_standsIn 10 = .ok (.if_icmp .ne 15, 3) := by decide +kernel
theorem dX4_standsIn_13 : decode cX4_standsIn 13 = .ok (.aload_n 0, 1) := by decide +kernel
theorem dX4_standsIn_14 : decode cX4_standsIn 14 = .ok (.iload_n 1, 1) := by decide +kernel
theorem dX4_standsIn_15 : decode cX4_standsIn 15 = .ok (.invokevirtual 220, 3) := by decide +kernel
theorem dX4_standsIn_18 : decode cX4_standsIn 18 = .ok (.ifCond .ne 7, 3) := by decide +kernel
theorem dX4_standsIn_21 : decode cX4_standsIn 21 = .ok (.iconst 1, 1) := by decide +kernel
theorem dX4_standsIn_22 : decode cX4_standsIn 22 = .ok (.goto 4, 3) := by decide +kernel
theorem dX4_standsIn_25 : decode cX4_standsIn 25 = .ok (.iconst 0, 1) := by decide +kernel
theorem dX4_standsIn_26 : decode cX4_standsIn 26 = .ok (.ireturn, 1) := by decide +kernel
theorem dX4_countStanding_0 : decode cX4_countStanding 0 = .ok (.iconst 0, 1) := by decide +kernel
theorem dX4_countStanding_1 : decode cX4_countStanding 1 = .ok (.istore_n 2, 1) := by decide +kernel
theorem dX4_countStanding_2 : decode cX4_countStanding 2 = .ok (.iconst 0, 1) := by decide +kernel
theorem dX4_countStanding_3 : decode cX4_countStanding 3 = .ok (.istore_n 3, 1) := by decide +kernel
theorem dX4_countStanding_4 : decode cX4_countStanding 4 = .ok (.iload_n 3, 1) := by decide +kernel
theorem dX4_countStanding_5 : decode cX4_countStanding 5 = .ok (.aload_n 0, 1) := by decide +kernel
theorem dX4_countStanding_6 : decode cX4_countStanding 6 = .ok (.getfield 56, 3) := by decide +kernel
theorem dX4_countStanding_9 : decode cX4_countStanding 9 = .ok (.if_icmp .ge 21, 3) := by decide +kernel
theorem dX4_countStanding_12 : decode cX4_countStanding 12 = .ok (.aload_n 0, 1) := by decide +kernel
theorem dX4_countStanding_13 : decode cX4_countStanding 13 = .ok (.iload_n 3, 1) := by decide +kernel
theorem dX4_countStanding_14 : decode cX4_countStanding 14 = .ok (.iload_n 1, 1) := by decide +kernel
theorem dX4_countStanding_15 : decode cX4_countStanding 15 = .ok (.invokevirtual 223, 3) := by decide +kernel
theorem dX4_countStanding_18 : decode cX4_countStanding 18 = .ok (.ifCond .eq 6, 3) := by decide +kernel
theorem dX4_countStanding_21 : decode cX4_countStanding 21 = .ok (.iinc 2 1, 3) := by decide +kernel
theorem dX4_countStanding_24 : decode cX4_countStanding 24 = .ok (.iinc 3 1, 3) := by decide +kernel
theorem dX4_countStanding_27 : decode cX4_countStanding 27 = .ok (.goto (-23), 3) := by decide +kernel
theorem dX4_countStanding_30 : decode cX4_countStanding 30 = .ok (.iload_n 2, 1) := by decide +kernel
theorem dX4_countStanding_31 : decode cX4_countStanding 31 = .ok (.ireturn, 1) := by decide +kernel
theorem dX4_placeOnList_0 : decode cX4_placeOnList 0 = .ok (.iconst 0, 1) := by decide +kernel
theorem dX4_placeOnList_1 : decode cX4_placeOnList 1 = .ok (.istore_n 2, 1) := by decide +kernel
theorem dX4_placeOnList_2 : decode cX4_placeOnList 2 = .ok (.iconst 0, 1) := by decide +kernel
theorem dX4_placeOnList_3 : decode cX4_placeOnList 3 = .ok (.istore_n 3, 1) := by decide +kernel
theorem dX4_placeOnList_4 : decode cX4_placeOnList 4 = .ok (.iload_n 3, 1) := by decide +kernel
theorem dX4_placeOnList_5 : decode cX4_placeOnList 5 = .ok (.aload_n 0, 1) := by decide +kernel
theorem dX4_placeOnList_6 : decode cX4_placeOnList 6 = .ok (.getfield 56, 3) := by decide +kernel
theorem dX4_placeOnList_9 : decode cX4_placeOnList 9 = .ok (.if_icmp .ge 38, 3) := by decide +kernel
theorem dX4_placeOnList_12 : decode cX4_placeOnList 12 = .ok (.aload_n 0, 1) := by decide +kernel
theorem dX4_placeOnList_13 : decode cX4_placeOnList 13 = .ok (.iload_n 3, 1) := by decide +kernel
theorem dX4_placeOnList_14 : decode cX4_placeOnList 14 = .ok (.aload_n 0, 1) := by decide +kernel
theorem dX4_placeOnList_15 : decode cX4_placeOnList 15 = .ok (.getfield 34, 3) := by decide +kernel
theorem dX4_placeOnList_18 : decode cX4_placeOnList 18 = .ok (.iload_n 1, 1) := by decide +kernel
theorem dX4_placeOnList_19 : decode cX4_placeOnList 19 = .ok (.aaload, 1) := by decide +kernel
theorem dX4_placeOnList_20 : decode cX4_placeOnList 20 = .ok (.getfield 141, 3) := by decide +kernel
theorem dX4_placeOnList_23 : decode cX4_placeOnList 23 = .ok (.invokevirtual 223, 3) := by decide +kernel
theorem dX4_placeOnList_26 : decode cX4_placeOnList 26 = .ok (.ifCond .eq 15, 3) := by decide +kernel
theorem dX4_placeOnList_29 : decode cX4_placeOnList 29 = .ok (.aload_n 0, 1) := by decide +kernel
theorem dX4_placeOnList_30 : decode cX4_placeOnList 30 = .ok (.iload_n 3, 1) := by decide +kernel
theorem dX4_placeOnList_31 : decode cX4_placeOnList 31 = .ok (.iload_n 1, 1) := by decide +kernel
theorem dX4_placeOnList_32 : decode cX4_placeOnList 32 = .ok (.invokevirtual 230, 3) := by decide +kernel
theorem dX4_placeOnList_35 : decode cX4_placeOnList 35 = .ok (.ifCond .eq 6, 3) := by decide +kernel
theorem dX4_placeOnList_38 : decode cX4_placeOnList 38 = .ok (.iinc 2 1, 3) := by decide +kernel
theorem dX4_placeOnList_41 : decode cX4_placeOnList 41 = .ok (.iinc 3 1, 3) := by decide +kernel
theorem dX4_placeOnList_44 : decode cX4_placeOnList 44 = .ok (.goto (-40), 3) := by decide +kernel
theorem dX4_placeOnList_47 : decode cX4_placeOnList 47 = .ok (.iload_n 2, 1) := by decide +kernel
theorem dX4_placeOnList_48 : decode cX4_placeOnList 48 = .ok (.ireturn, 1) := by decide +kernel
theorem dX4_comesBefore_0 : decode cX4_comesBefore 0 = .ok (.aload_n 0, 1) := by decide +kernel
theorem dX4_comesBefore_1 : decode cX4_comesBefore 1 = .ok (.getfield 28, 3) := by decide +kernel
theorem dX4_comesBefore_4 : decode cX4_comesBefore 4 = .ok (.aload_n 0, 1) := by decide +kernel
theorem dX4_comesBefore_5 : decode cX4_comesBefore 5 = .ok (.getfield 34, 3) := by decide +kernel
theorem dX4_comesBefore_8 : decode cX4_comesBefore 8 = .ok (.iload_n 1, 1) := by decide +kernel
theorem dX4_comesBefore_9 : decode cX4_comesBefore 9 = .ok (.aaload, 1) := by decide +kernel
theorem dX4_comesBefore_10 : decode cX4_comesBefore 10 = .ok (.getfield 233, 3) := by decide +kernel
theorem dX4_comesBefore_13 : decode cX4_comesBefore 13 = .ok (.invokevirtual 236, 3) := by decide +kernel
theorem dX4_comesBefore_16 : decode cX4_comesBefore 16 = .ok (.istore_n 3, 1) := by decide +kernel
theorem dX4_comesBefore_17 : decode cX4_comesBefore 17 = .ok (.aload_n 0, 1) := by decide +kernel
theorem dX4_comesBefore_18 : decode cX4_comesBefore 18 = .ok (.getfield 28, 3) := by decide +kernel
theorem dX4_comesBefore_21 : decode cX4_comesBefore 21 = .ok (.aload_n 0, 1) := by decide +kernel
theorem dX4_comesBefore_22 : decode cX4_comesBefore 22 = .ok (.getfield 34, 3) := by decide +kernel
theorem dX4_comesBefore_25 : decode cX4_comesBefore 25 = .ok (.iload_n 2, 1) := by decide +kernel
theorem dX4_comesBefore_26 : decode cX4_comesBefore 26 = .ok (.aaload, 1) := by decide +kernel
theorem dX4_comesBefore_27 : decode cX4_comesBefore 27 = .ok (.getfield 233, 3) := by decide +kernel
theorem dX4_comesBefore_30 : decode cX4_comesBefore 30 = .ok (.invokevirtual 236, 3) := by decide +kernel
theorem dX4_comesBefore_33 : decode cX4_comesBefore 33 = .ok (.istore 4, 2) := by decide +kernel
theorem dX4_comesBefore_35 : decode cX4_comesBefore 35 = .ok (.iload_n 3, 1) := by decide +kernel
theorem dX4_comesBefore_36 : decode cX4_comesBefore 36 = .ok (.iload 4, 2) := by decide +kernel
theorem dX4_comesBefore_38 : decode cX4_comesBefore 38 = .ok (.if_icmp .lt 14, 3) := by decide +kernel
theorem dX4_comesBefore_41 : decode cX4_comesBefore 41 = .ok (.iload_n 3, 1) := by decide +kernel
theorem dX4_comesBefore_42 : decode cX4_comesBefore 42 = .ok (.iload 4, 2) := by decide +kernel
theorem dX4_comesBefore_44 : decode cX4_comesBefore 44 = .ok (.if_icmp .ne 12, 3) := by decide +kernel
theorem dX4_comesBefore_47 : decode cX4_comesBefore 47 = .ok (.iload_n 1, 1) := by decide +kernel
theorem dX4_comesBefore_48 : decode cX4_comesBefore 48 = .ok (.iload_n 2, 1) := by decide +kernel
theorem dX4_comesBefore_49 : decode cX4_comesBefore 49 = .ok (.if_icmp .ge 7, 3) := by decide +kernel
theorem dX4_comesBefore_52 : decode cX4_comesBefore 52 = .ok (.iconst 1, 1) := by decide +kernel
theorem dX4_comesBefore_53 : decode cX4_comesBefore 53 = .ok (.goto 4, 3) := by decide +kernel
theorem dX4_comesBefore_56 : decode cX4_comesBefore 56 = .ok (.iconst 0, 1) := by decide +kernel
theorem dX4_comesBefore_57 : decode cX4_comesBefore 57 = .ok (.ireturn, 1) := by decide +kernel
theorem dX4_votesIn_0 : decode cX4_votesIn 0 = .ok (.iconst 0, 1) := by decide +kernel
theorem dX4_votesIn_1 : decode cX4_votesIn 1 = .ok (.istore_n 2, 1) := by decide +kernel
theorem dX4_votesIn_2 : decode cX4_votesIn 2 = .ok (.iconst 0, 1) := by decide +kernel
theorem dX4_votesIn_3 : decode cX4_votesIn 3 = .ok (.istore_n 3, 1) := by decide +kernel
theorem dX4_votesIn_4 : decode cX4_votesIn 4 = .ok (.iload_n 3, 1) := by decide +kernel
theorem dX4_votesIn_5 : decode cX4_votesIn 5 = .ok (.aload_n 0, 1) := by decide +kernel
theorem dX4_votesIn_6 : decode cX4_votesIn 6 = .ok (.getfield 56, 3) := by decide +kernel
theorem dX4_votesIn_9 : decode cX4_votesIn 9 = .ok (.if_icmp .ge 34, 3) := by decide +kernel
theorem dX4_votesIn_12 : decode cX4_votesIn 12 = .ok (.aload_n 0, 1) := by decide +kernel
theorem dX4_votesIn_13 : decode cX4_votesIn 13 = .ok (.getfield 34, 3) := by decide +kernel
theorem dX4_votesIn_16 : decode cX4_votesIn 16 = .ok (.iload_n 3, 1) := by decide +kernel
theorem dX4_votesIn_17 : decode cX4_votesIn 17 = .ok (.aaload, 1) := by decide +kernel
theorem dX4_votesIn_18 : decode cX4_votesIn 18 = .ok (.getfield 141, 3) := by decide +kernel
theorem dX4_votesIn_21 : decode cX4_votesIn 21 = .ok (.iload_n 1, 1) := by decide +kernel
theorem dX4_votesIn_22 : decode cX4_votesIn 22 = .ok (.if_icmp .ne 15, 3) := by decide +kernel
theorem dX4_votesIn_25 : decode cX4_votesIn 25 = .ok (.iload_n 2, 1) := by decide +kernel
theorem dX4_votesIn_26 : decode cX4_votesIn 26 = .ok (.aload_n 0, 1) := by decide +kernel
theorem dX4_votesIn_27 : decode cX4_votesIn 27 = .ok (.getfield 34, 3) := by decide +kernel
theorem dX4_votesIn_30 : decode cX4_votesIn 30 = .ok (.iload_n 3, 1) := by decide +kernel
theorem dX4_votesIn_31 : decode cX4_votesIn 31 = .ok (.aaload, 1) := by decide +kernel
theorem dX4_votesIn_32 : decode cX4_votesIn 32 = .ok (.getfield 135, 3) := by decide +kernel
theorem dX4_votesIn_35 : decode cX4_votesIn 35 = .ok (.iadd, 1) := by decide +kernel
theorem dX4_votesIn_36 : decode cX4_votesIn 36 = .ok (.istore_n 2, 1) := by decide +kernel
theorem dX4_votesIn_37 : decode cX4_votesIn 37 = .ok (.iinc 3 1, 3) := by decide +kernel
theorem dX4_votesIn_40 : decode cX4_votesIn 40 = .ok (.goto (-36), 3) := by decide +kernel
theorem dX4_votesIn_43 : decode cX4_votesIn 43 = .ok (.iload_n 2, 1) := by decide +kernel
theorem dX4_votesIn_44 : decode cX4_votesIn 44 = .ok (.ireturn, 1) := by decide +kernel
theorem dX4_mostVotedIn_0 : decode cX4_mostVotedIn 0 = .ok (.iconst (-1), 1) := by decide +kernel
theorem dX4_mostVotedIn_1 : decode cX4_mostVotedIn 1 = .ok (.istore_n 2, 1) := by decide +kernel
theorem dX4_mostVotedIn_2 : decode cX4_mostVotedIn 2 = .ok (.iconst 0, 1) := by decide +kernel
theorem dX4_mostVotedIn_3 : decode cX4_mostVotedIn 3 = .ok (.istore_n 3, 1) := by decide +kernel
theorem dX4_mostVotedIn_4 : decode cX4_mostVotedIn 4 = .ok (.iload_n 3, 1) := by decide +kernel
theorem dX4_mostVotedIn_5 : decode cX4_mostVotedIn 5 = .ok (.aload_n 0, 1) := by decide +kernel
theorem dX4_mostVotedIn_6 : decode cX4_mostVotedIn 6 = .ok (.getfield 56, 3) := by decide +kernel
theorem dX4_mostVotedIn_9 : decode cX4_mostVotedIn 9 = .ok (.if_icmp .ge 46, 3) := by decide +kernel
theorem dX4_mostVotedIn_12 : decode cX4_mostVotedIn 12 = .ok (.aload_n 0, 1) := by decide +kernel
theorem dX4_mostVotedIn_13 : decode cX4_mostVotedIn 13 = .ok (.iload_n 3, 1) := by decide +kernel
theorem dX4_mostVotedIn_14 : decode cX4_mostVotedIn 14 = .ok (.iload_n 1, 1) := by decide +kernel
theorem dX4_mostVotedIn_15 : decode cX4_mostVotedIn 15 = .ok (.invokevirtual 223, 3) := by decide +kernel
theorem dX4_mostVotedIn_18 : decode cX4_mostVotedIn 18 = .ok (.ifCond .eq 31, 3) := by decide +kernel
theorem dX4_mostVotedIn_21 : decode cX4_mostVotedIn 21 = .ok (.iload_n 2, 1) := by decide +kernel
theorem dX4_mostVotedIn_22 : decode cX4_mostVotedIn 22 = .ok (.iconst (-1), 1) := by decide +kernel
theorem dX4_mostVotedIn_23 : decode cX4_mostVotedIn 23 = .ok (.if_icmp .eq 24, 3) := by decide +kernel
theorem dX4_mostVotedIn_26 : decode cX4_mostVotedIn 26 = .ok (.aload_n 0, 1) := by decide +kernel
theorem dX4_mostVotedIn_27 : decode cX4_mostVotedIn 27 = .ok (.getfield 34, 3) := by decide +kernel
theorem dX4_mostVotedIn_30 : decode cX4_mostVotedIn 30 = .ok (.iload_n 3, 1) := by decide +kernel
theorem dX4_mostVotedIn_31 : decode cX4_mostVotedIn 31 = .ok (.aaload, 1) := by decide +kernel
theorem dX4_mostVotedIn_32 : decode cX4_mostVotedIn 32 = .ok (.getfield 135, 3) := by decide +kernel
theorem dX4_mostVotedIn_35 : decode cX4_mostVotedIn 35 = .ok (.aload_n 0, 1) := by decide +kernel
theorem dX4_mostVotedIn_36 : decode cX4_mostVotedIn 36 = .ok (.getfield 34, 3) := by decide +kernel
theorem dX4_mostVotedIn_39 : decode cX4_mostVotedIn 39 = .ok (.iload_n 2, 1) := by decide +kernel
theorem dX4_mostVotedIn_40 : decode cX4_mostVotedIn 40 = .ok (.aaload, 1) := by decide +kernel
theorem dX4_mostVotedIn_41 : decode cX4_mostVotedIn 41 = .ok (.getfield 135, 3) := by decide +kernel
theorem dX4_mostVotedIn_44 : decode cX4_mostVotedIn 44 = .ok (.if_icmp .le 5, 3) := by decide +kernel
theorem dX4_mostVotedIn_47 : decode cX4_mostVotedIn 47 = .ok (.iload_n 3, 1) := by decide +kernel
theorem dX4_mostVotedIn_48 : decode cX4_mostVotedIn 48 = .ok (.istore_n 2, 1) := by decide +kernel
theorem dX4_mostVotedIn_49 : decode cX4_mostVotedIn 49 = .ok (.iinc 3 1, 3) := by decide +kernel
theorem dX4_mostVotedIn_52 : decode cX4_mostVotedIn 52 = .ok (.goto (-48), 3) := by decide +kernel
theorem dX4_mostVotedIn_55 : decode cX4_mostVotedIn 55 = .ok (.iload_n 2, 1) := by decide +kernel
theorem dX4_mostVotedIn_56 : decode cX4_mostVotedIn 56 = .ok (.ireturn, 1) := by decide +kernel
theorem dX4_countStandingAndLost_0 : decode cX4_countStandingAndLost 0 = .ok (.iconst 0, 1) := by decide +kernel
theorem dX4_countStandingAndLost_1 : decode cX4_countStandingAndLost 1 = .ok (.istore_n 2, 1) := by decide +kernel
theorem dX4_countStandingAndLost_2 : decode cX4_countStandingAndLost 2 = .ok (.iconst 0, 1) := by decide +kernel
theorem dX4_countStandingAndLost_3 : decode cX4_countStandingAndLost 3 = .ok (.istore_n 3, 1) := by decide +kernel
theorem dX4_countStandingAndLost_4 : decode cX4_countStandingAndLost 4 = .ok (.iload_n 3, 1) := by decide +kernel
theorem dX4_countStandingAndLost_5 : decode cX4_countStandingAndLost 5 = .ok (.aload_n 0, 1) := by decide +kernel
theorem dX4_countStandingAndLost_6 : decode cX4_countStandingAndLost 6 = .ok (.getfield 56, 3) := by decide +kernel
theorem dX4_countStandingAndLost_9 : decode cX4_countStandingAndLost 9 = .ok (.if_icmp .ge 30, 3) := by decide +kernel
theorem dX4_countStandingAndLost_12 : decode cX4_countStandingAndLost 12 = .ok (.aload_n 0, 1) := by decide +kernel
theorem dX4_countStandingAndLost_13 : decode cX4_countStandingAndLost 13 = .ok (.iload_n 3, 1) := by decide +kernel
theorem dX4_countStandingAndLost_14 : decode cX4_countStandingAndLost 14 = .ok (.iload_n 1, 1) := by decide +kernel
theorem dX4_countStandingAndLost_15 : decode cX4_countStandingAndLost 15 = .ok (.invokevirtual 223, 3) := by decide +kernel
theorem dX4_countStandingAndLost_18 : decode cX4_countStandingAndLost 18 = .ok (.ifCond .eq 15, 3) := by decide +kernel
theorem dX4_countStandingAndLost_21 : decode cX4_countStandingAndLost 21 = .ok (.aload_n 0, 1) := by decide +kernel
theorem dX4_countStandingAndLost_22 : decode cX4_countStandingAndLost 22 = .ok (.iload_n 3, 1) := by decide +kernel
theorem dX4_countStandingAndLost_23 : decode cX4_countStandingAndLost 23 = .ok (.invokevirtual 239, 3) := by decide +kernel
theorem dX4_countStandingAndLost_26 : decode cX4_countStandingAndLost 26 = .ok (.iconst 2, 1) := by decide +kernel
theorem dX4_countStandingAndLost_27 : decode cX4_countStandingAndLost 27 = .ok (.if_icmp .ne 6, 3) := by decide +kernel
theorem dX4_countStandingAndLost_30 : decode cX4_countStandingAndLost 30 = .ok (.iinc 2 1, 3) := by decide +kernel
theorem dX4_countStandingAndLost_33 : decode cX4_countStandingAndLost 33 = .ok (.iinc 3 1, 3) := by decide +kernel
theorem dX4_countStandingAndLost_36 : decode cX4_countStandingAndLost 36 = .ok (.goto (-32), 3) := by decide +kernel
theorem dX4_countStandingAndLost_39 : decode cX4_countStandingAndLost 39 = .ok (.iload_n 2, 1) := by decide +kernel
theorem dX4_countStandingAndLost_40 : decode cX4_countStandingAndLost 40 = .ok (.ireturn, 1) := by decide +kernel
theorem dX4_stateOfDeposit_0 : decode cX4_stateOfDeposit 0 = .ok (.aload_n 0, 1) := by decide +kernel
theorem dX4_stateOfDeposit_1 : decode cX4_stateOfDeposit 1 = .ok (.getfield 34, 3) := by decide +kernel
theorem dX4_stateOfDeposit_4 : decode cX4_stateOfDeposit 4 = .ok (.iload_n 1, 1) := by decide +kernel
theorem dX4_stateOfDeposit_5 : decode cX4_stateOfDeposit 5 = .ok (.aaload, 1) := by decide +kernel
theorem dX4_stateOfDeposit_6 : decode cX4_stateOfDeposit 6 = .ok (.astore_n 2, 1) := by decide +kernel
theorem dX4_stateOfDeposit_7 : decode cX4_stateOfDeposit 7 = .ok (.aload_n 0, 1) := by decide +kernel
theorem dX4_stateOfDeposit_8 : decode cX4_stateOfDeposit 8 = .ok (.iload_n 1, 1) := by decide +kernel
theorem dX4_stateOfDeposit_9 : decode cX4_stateOfDeposit 9 = .ok (.invokevirtual 177, 3) := by decide +kernel
theorem dX4_stateOfDeposit_12 : decode cX4_stateOfDeposit 12 = .ok (.ifCond .eq 16, 3) := by decide +kernel
theorem dX4_stateOfDeposit_15 : decode cX4_stateOfDeposit 15 = .ok (.aload_n 2, 1) := by decide +kernel
theorem dX4_stateOfDeposit_16 : decode cX4_stateOfDeposit 16 = .ok (.getfield 126, 3) := by decide +kernel
theorem dX4_stateOfDeposit_19 : decode cX4_stateOfDeposit 19 = .ok (.ifCond .eq 7, 3) := by decide +kernel
theorem dX4_stateOfDeposit_22 : decode cX4_stateOfDeposit 22 = .ok (.iconst 2, 1) := by decide +kernel
theorem dX4_stateOfDeposit_23 : decode cX4_stateOfDeposit 23 = .ok (.goto 4, 3) := by decide +kernel
theorem dX4_stateOfDeposit_26 : decode cX4_stateOfDeposit 26 = .ok (.iconst 1, 1) := by decide +kernel
theorem dX4_stateOfDeposit_27 : decode cX4_stateOfDeposit 27 = .ok (.ireturn, 1) := by decide +kernel
theorem dX4_stateOfDeposit_28 : decode cX4_stateOfDeposit 28 = .ok (.aload_n 0, 1) := by decide +kernel
theorem dX4_stateOfDeposit_29 : decode cX4_stateOfDeposit 29 = .ok (.getfield 12, 3) := by decide +kernel
theorem dX4_stateOfDeposit_32 : decode cX4_stateOfDeposit 32 = .ok (.invokevirtual 122, 3) := by decide +kernel
theorem dX4_stateOfDeposit_35 : decode cX4_stateOfDeposit 35 = .ok (.ifCond .eq 5, 3) := by decide +kernel
theorem dX4_stateOfDeposit_38 : decode cX4_stateOfDeposit 38 = .ok (.iconst 0, 1) := by decide +kernel
theorem dX4_stateOfDeposit_39 : decode cX4_stateOfDeposit 39 = .ok (.ireturn, 1) := by decide +kernel
theorem dX4_stateOfDeposit_40 : decode cX4_stateOfDeposit 40 = .ok (.aload_n 0, 1) := by decide +kernel
theorem dX4_stateOfDeposit_41 : decode cX4_stateOfDeposit 41 = .ok (.iload_n 1, 1) := by decide +kernel
theorem dX4_stateOfDeposit_42 : decode cX4_stateOfDeposit 42 = .ok (.invokevirtual 196, 3) := by decide +kernel
theorem dX4_stateOfDeposit_45 : decode cX4_stateOfDeposit 45 = .ok (.ifCond .eq 5, 3) := by decide +kernel
theorem dX4_stateOfDeposit_48 : decode cX4_stateOfDeposit 48 = .ok (.iconst 1, 1) := by decide +kernel
theorem dX4_stateOfDeposit_49 : decode cX4_stateOfDeposit 49 = .ok (.ireturn, 1) := by decide +kernel
theorem dX4_stateOfDeposit_50 : decode cX4_stateOfDeposit 50 = .ok (.aload_n 2, 1) := by decide +kernel
theorem dX4_stateOfDeposit_51 : decode cX4_stateOfDeposit 51 = .ok (.getfield 129, 3) := by decide +kernel
theorem dX4_stateOfDeposit_54 : decode cX4_stateOfDeposit 54 = .ok (.ifCond .eq 17, 3) := by decide +kernel
theorem dX4_stateOfDeposit_57 : decode cX4_stateOfDeposit 57 = .ok (.aload_n 0, 1) := by decide +kernel
theorem dX4_stateOfDeposit_58 : decode cX4_stateOfDeposit 58 = .ok (.iload_n 1, 1) := by decide +kernel
theorem dX4_stateOfDeposit_59 : decode cX4_stateOfDeposit 59 = .ok (.invokevirtual 242, 3) := by decide +kernel
theorem dX4_stateOfDeposit_62 : decode cX4_stateOfDeposit 62 = .ok (.ifCond .eq 7, 3) := by decide +kernel
theorem dX4_stateOfDeposit_65 : decode cX4_stateOfDeposit 65 = .ok (.iconst 0, 1) := by decide +kernel
theorem dX4_stateOfDeposit_66 : decode cX4_stateOfDeposit 66 = .ok (.goto 4, 3) := by decide +kernel
theorem dX4_stateOfDeposit_69 : decode cX4_stateOfDeposit 69 = .ok (.iconst 1, 1) := by decide +kernel
theorem dX4_stateOfDeposit_70 : decode cX4_stateOfDeposit 70 = .ok (.ireturn, 1) := by decide +kernel
theorem dX4_stateOfDeposit_71 : decode cX4_stateOfDeposit 71 = .ok (.aload_n 0, 1) := by decide +kernel
theorem dX4_stateOfDeposit_72 : decode cX4_stateOfDeposit 72 = .ok (.getfield 21, 3) := by decide +kernel
theorem dX4_stateOfDeposit_75 : decode cX4_stateOfDeposit 75 = .ok (.getfield 100, 3) := by decide +kernel
theorem dX4_stateOfDeposit_78 : decode cX4_stateOfDeposit 78 = .ok (.aload_n 2, 1) := by decide +kernel
theorem dX4_stateOfDeposit_79 : decode cX4_stateOfDeposit 79 = .ok (.getfield 141, 3) := by decide +kernel
theorem dX4_stateOfDeposit_82 : decode cX4_stateOfDeposit 82 = .ok (.aaload, 1) := by decide +kernel
theorem dX4_stateOfDeposit_83 : decode cX4_stateOfDeposit 83 = .ok (.getfield 104, 3) := by decide +kernel
theorem dX4_stateOfDeposit_86 : decode cX4_stateOfDeposit 86 = .ok (.ifCond .ne 5, 3) := by decide +kernel
theorem dX4_stateOfDeposit_89 : decode cX4_stateOfDeposit 89 = .ok (.iconst 0, 1) := by decide +kernel
theorem dX4_stateOfDeposit_90 : decode cX4_stateOfDeposit 90 = .ok (.ireturn, 1) := by decide +kernel
theorem dX4_stateOfDeposit_91 : decode cX4_stateOfDeposit 91 = .ok (.bipush 20, 2) := by decide +kernel
theorem dX4_stateOfDeposit_93 : decode cX4_stateOfDeposit 93 = .ok (.aload_n 2, 1) := by decide +kernel
theorem dX4_stateOfDeposit_94 : decode cX4_stateOfDeposit 94 = .ok (.getfield 135, 3) := by decide +kernel
theorem dX4_stateOfDeposit_97 : decode cX4_stateOfDeposit 97 = .ok (.imul, 1) := by decide +kernel
theorem dX4_stateOfDeposit_98 : decode cX4_stateOfDeposit 98 = .ok (.aload_n 0, 1) := by decide +kernel
theorem dX4_stateOfDeposit_99 : decode cX4_stateOfDeposit 99 = .ok (.aload_n 2, 1) := by decide +kernel
theorem dX4_stateOfDeposit_100 : decode cX4_stateOfDeposit 100 = .ok (.getfield 141, 3) := by decide +kernel
theorem dX4_stateOfDeposit_103 : decode cX4_stateOfDeposit 103 = .ok (.invokevirtual 245, 3) := by decide +kernel
theorem dX4_stateOfDeposit_106 : decode cX4_stateOfDeposit 106 = .ok (.if_icmp .ge 7, 3) := by decide +kernel
theorem dX4_stateOfDeposit_109 : decode cX4_stateOfDeposit 109 = .ok (.iconst 2, 1) := by decide +kernel
theorem dX4_stateOfDeposit_110 : decode cX4_stateOfDeposit 110 = .ok (.goto 4, 3) := by decide +kernel
theorem dX4_stateOfDeposit_113 : decode cX4_stateOfDeposit 113 = .ok (.iconst 1, 1) := by decide +kernel
theorem dX4_stateOfDeposit_114 : decode cX4_stateOfDeposit 114 = .ok (.ireturn, 1) := by decide +kernel
theorem dX4_sumOfDeposits_0 : decode cX4_sumOfDeposits 0 = .ok (.iconst 0, 1) := by decide +kernel
theorem dX4_sumOfDeposits_1 : decode cX4_sumOfDeposits 1 = .ok (.istore_n 2, 1) := by decide +kernel
theorem dX4_sumOfDeposits_2 : decode cX4_sumOfDeposits 2 = .ok (.iconst 0, 1) := by decide +kernel
theorem dX4_sumOfDeposits_3 : decode cX4_sumOfDeposits 3 = .ok (.istore_n 3, 1) := by decide +kernel
theorem dX4_sumOfDeposits_4 : decode cX4_sumOfDeposits 4 = .ok (.iload_n 3, 1) := by decide +kernel
theorem dX4_sumOfDeposits_5 : decode cX4_sumOfDeposits 5 = .ok (.aload_n 0, 1) := by decide +kernel
theorem dX4_sumOfDeposits_6 : decode cX4_sumOfDeposits 6 = .ok (.getfield 56, 3) := by decide +kernel
theorem dX4_sumOfDeposits_9 : decode cX4_sumOfDeposits 9 = .ok (.if_icmp .ge 30, 3) := by decide +kernel
theorem dX4_sumOfDeposits_12 : decode cX4_sumOfDeposits 12 = .ok (.aload_n 0, 1) := by decide +kernel
theorem dX4_sumOfDeposits_13 : decode cX4_sumOfDeposits 13 = .ok (.iload_n 3, 1) := by decide +kernel
theorem dX4_sumOfDeposits_14 : decode cX4_sumOfDeposits 14 = .ok (.invokevirtual 239, 3) := by decide +kernel
theorem dX4_sumOfDeposits_17 : decode cX4_sumOfDeposits 17 = .ok (.iload_n 1, 1) := by decide +kernel
theorem dX4_sumOfDeposits_18 : decode cX4_sumOfDeposits 18 = .ok (.if_icmp .ne 15, 3) := by decide +kernel
theorem dX4_sumOfDeposits_21 : decode cX4_sumOfDeposits 21 = .ok (.iload_n 2, 1) := by decide +kernel
theorem dX4_sumOfDeposits_22 : decode cX4_sumOfDeposits 22 = .ok (.aload_n 0, 1) := by decide +kernel
theorem dX4_sumOfDeposits_23 : decode cX4_sumOfDeposits 23 = .ok (.getfield 34, 3) := by decide +kernel
theorem dX4_sumOfDeposits_26 : decode cX4_sumOfDeposits 26 = .ok (.iload_n 3, 1) := by decide +kernel
theorem dX4_sumOfDeposits_27 : decode cX4_sumOfDeposits 27 = .ok (.aaload, 1) := by decide +kernel
theorem dX4_sumOfDeposits_28 : decode cX4_sumOfDeposits 28 = .ok (.getfield 119, 3) := by decide +kernel
theorem dX4_sumOfDeposits_31 : decode cX4_sumOfDeposits 31 = .ok (.iadd, 1) := by decide +kernel
theorem dX4_sumOfDeposits_32 : decode cX4_sumOfDeposits 32 = .ok (.istore_n 2, 1) := by decide +kernel
theorem dX4_sumOfDeposits_33 : decode cX4_sumOfDeposits 33 = .ok (.iinc 3 1, 3) := by decide +kernel
theorem dX4_sumOfDeposits_36 : decode cX4_sumOfDeposits 36 = .ok (.goto (-32), 3) := by decide +kernel
theorem dX4_sumOfDeposits_39 : decode cX4_sumOfDeposits 39 = .ok (.iload_n 2, 1) := by decide +kernel
theorem dX4_sumOfDeposits_40 : decode cX4_sumOfDeposits 40 = .ok (.ireturn, 1) := by decide +kernel
theorem dX5_init_0 : decode cX5_init 0 = .ok (.aload_n 0, 1) := by decide +kernel
theorem dX5_init_1 : decode cX5_init 1 = .ok (.invokespecial 3, 3) := by decide +kernel
theorem dX5_init_4 : decode cX5_init 4 = .ok (.return_, 1) := by decide +kernel
theorem dX5_begin_0 : decode cX5_begin 0 = .ok (.aload_n 0, 1) := by decide +kernel
theorem dX5_begin_1 : decode cX5_begin 1 = .ok (.iload_n 1, 1) := by decide +kernel
theorem dX5_begin_2 : decode cX5_begin 2 = .ok (.putfield 9, 3) := by decide +kernel
theorem dX5_begin_5 : decode cX5_begin 5 = .ok (.aload_n 0, 1) := by decide +kernel
theorem dX5_begin_6 : decode cX5_begin 6 = .ok (.iload_n 2, 1) := by decide +kernel
theorem dX5_begin_7 : decode cX5_begin 7 = .ok (.putfield 15, 3) := by decide +kernel
theorem dX5_begin_10 : decode cX5_begin 10 = .ok (.aload_n 0, 1) := by decide +kernel
theorem dX5_begin_11 : decode cX5_begin 11 = .ok (.iload_n 3, 1) := by decide +kernel
theorem dX5_begin_12 : decode cX5_begin 12 = .ok (.putfield 18, 3) := by decide +kernel
theorem dX5_begin_15 : decode cX5_begin 15 = .ok (.aload_n 0, 1) := by decide +kernel
theorem dX5_begin_16 : decode cX5_begin 16 = .ok (.iconst 0, 1) := by decide +kernel
theorem dX5_begin_17 : decode cX5_begin 17 = .ok (.putfield 21, 3) := by decide +kernel
theorem dX5_begin_20 : decode cX5_begin 20 = .ok (.aload_n 0, 1) := by decide +kernel
theorem dX5_begin_21 : decode cX5_begin 21 = .ok (.iconst 0, 1) := by decide +kernel
theorem dX5_begin_22 : decode cX5_begin 22 = .ok (.putfield 24, 3) := by decide +kernel
theorem dX5_begin_25 : decode cX5_begin 25 = .ok (.aload_n 0, 1) := by decide +kernel
theorem dX5_begin_26 : decode cX5_begin 26 = .ok (.iconst 0, 1) := by decide +kernel
theorem dX5_begin_27 : decode cX5_begin 27 = .ok (.putfield 27, 3) := by decide +kernel
theorem dX5_begin_30 : decode cX5_begin 30 = .ok (.aload_n 0, 1) := by decide +kernel
theorem dX5_begin_31 : decode cX5_begin 31 = .ok (.iconst 0, 1) := by decide +kernel
theorem dX5_begin_32 : decode cX5_begin 32 = .ok (.putfield 30, 3) := by decide +kernel
theorem dX5_begin_35 : decode cX5_begin 35 = .ok (.aload_n 0, 1) := by decide +kernel
theorem dX5_begin_36 : decode cX5_begin 36 = .ok (.iconst 0, 1) := by decide +kernel
theorem dX5_begin_37 : decode cX5_begin 37 = .ok (.putfield 34, 3) := by decide +kernel
theorem dX5_begin_40 : decode cX5_begin 40 = .ok (.aload_n 0, 1) := by decide +kernel
theorem dX5_begin_41 : decode cX5_begin 41 = .ok (.iconst 0, 1) := by decide +kernel
theorem dX5_begin_42 : decode cX5_begin 42 = .ok (.putfield 37, 3) := by decide +kernel
theorem dX5_begin_45 : decode cX5_begin 45 = .ok (.aload_n 0, 1) := by decide +kernel
theorem dX5_begin_46 : decode cX5_begin 46 = .ok (.iconst 0, 1) := by decide +kernel
theorem dX5_begin_47 : decode cX5_begin 47 = .ok (.putfield 40, 3) := by decide +kernel
theorem dX5_begin_50 : decode cX5_begin 50 = .ok (.return_, 1) := by decide +kernel
theorem dX5_renew_0 : decode cX5_renew 0 = .ok (.aload_n 0, 1) := by decide +kernel
theorem dX5_renew_1 : decode cX5_renew 1 = .ok (.iload_n 1, 1) := by decide +kernel
theorem dX5_renew_2 : decode cX5_renew 2 = .ok (.putfield 18, 3) := by decide +kernel
theorem dX5_renew_5 : decode cX5_renew 5 = .ok (.aload_n 0, 1) := by decide +kernel
theorem dX5_renew_6 : decode cX5_renew 6 = .ok (.dup, 1) := by decide +kernel
theorem dX5_renew_7 : decode cX5_renew 7 = .ok (.getfield 27, 3) := by decide +kernel
theorem dX5_renew_10 : decode cX5_renew 10 = .ok (.iconst 1, 1) := by decide +kernel
theorem dX5_renew_11 : decode cX5_renew 11 = .ok (.iadd, 1) := by decide +kernel
theorem dX5_renew_12 : decode cX5_renew 12 = .ok (.putfield 27, 3) := by decide +kernel
theorem dX5_renew_15 : decode cX5_renew 15 = .ok (.aload_n 0, 1) := by decide +kernel
theorem dX5_renew_16 : decode cX5_renew 16 = .ok (.iconst 0, 1) := by decide +kernel
theorem dX5_renew_17 : decode cX5_renew 17 = .ok (.putfield 30, 3) := by decide +kernel
theorem dX5_renew_20 : decode cX5_renew 20 = .ok (.return_, 1) := by decide +kernel
theorem dX6_init_0 : decode cX6_init 0 = .ok (.aload_n 0, 1) := by decide +kernel
theorem dX6_init_1 : decode cX6_init 1 = .ok (.invokespecial 3, 3) := by decide +kernel
theorem dX6_init_4 : decode cX6_init 4 = .ok (.aload_n 0, 1) := by decide +kernel
theorem dX6_init_5 : decode cX6_init 5 = .ok (.iconst 5, 1) := by decide +kernel
theorem dX6_init_6 : decode cX6_init 6 = .ok (.anewarray 9, 3) := by decide +kernel
theorem dX6_init_9 : decode cX6_init 9 = .ok (.putfield 11, 3) := by decide +kernel
theorem dX6_init_12 : decode cX6_init 12 = .ok (.aload_n 0, 1) := by decide +kernel
theorem dX6_init_13 : decode cX6_init 13 = .ok (.bipush 40, 2) := by decide +kernel
theorem dX6_init_15 : decode cX6_init 15 = .ok (.anewarray 17, 3) := by decide +kernel
theorem dX6_init_18 : decode cX6_init 18 = .ok (.putfield 19, 3) := by decide +kernel
theorem dX6_init_21 : decode cX6_init 21 = .ok (.iconst 0, 1) := by decide +kernel
theorem dX6_init_22 : decode cX6_init 22 = .ok (.istore_n 1, 1) := by decide +kernel
theorem dX6_init_23 : decode cX6_init 23 = .ok (.iload_n 1, 1) := by decide +kernel
theorem dX6_init_24 : decode cX6_init 24 = .ok (.iconst 5, 1) := by decide +kernel
theorem dX6_init_25 : decode cX6_init 25 = .ok (.if_icmp .ge 22, 3) := by decide +kernel
theorem dX6_init_28 : decode cX6_init 28 = .ok (.aload_n 0, 1) := by decide +kernel
theorem dX6_init_29 : decode cX6_init 29 = .ok (.getfield 11, 3) := by decide +kernel
theorem dX6_init_32 : decode cX6_init 32 = .ok (.iload_n 1, 1) := by decide +kernel
theorem dX6_init_33 : decode cX6_init 33 = .ok (.new 9, 3) := by decide +kernel
theorem dX6_init_36 : decode cX6_init 36 = .ok (.dup, 1) := by decide +kernel
theorem dX6_init_37 : decode cX6_init 37 = .ok (.invokespecial 23, 3) := by decide +kernel
theorem dX6_init_40 : decode cX6_init 40 = .ok (.aastore, 1) := by decide +kernel
theorem dX6_init_41 : decode cX6_init 41 = .ok (.iinc 1 1, 3) := by decide +kernel
theorem dX6_init_44 : decode cX6_init 44 = .ok (.goto (-21), 3) := by decide +kernel
theorem dX6_init_47 : decode cX6_init 47 = .ok (.iconst 0, 1) := by decide +kernel
theorem dX6_init_48 : decode cX6_init 48 = .ok (.istore_n 1, 1) := by decide +kernel
theorem dX6_init_49 : decode cX6_init 49 = .ok (.iload_n 1, 1) := by decide +kernel
theorem dX6_init_50 : decode cX6_init 50 = .ok (.bipush 40, 2) := by decide +kernel
theorem dX6_init_52 : decode cX6_init 52 = .ok (.if_icmp .ge 22, 3) := by decide +kernel
theorem dX6_init_55 : decode cX6_init 55 = .ok (.aload_n 0, 1) := by decide +kernel
theorem dX6_init_56 : decode cX6_init 56 = .ok (.getfield 19, 3) := by decide +kernel
theorem dX6_init_59 : decode cX6_init 59 = .ok (.iload_n 1, 1) := by decide +kernel
theorem dX6_init_60 : decode cX6_init 60 = .ok (.new 17, 3) := by decide +kernel
theorem dX6_init_63 : decode cX6_init 63 = .ok (.dup, 1) := by decide +kernel
theorem dX6_init_64 : decode cX6_init 64 = .ok (.invokespecial 24, 3) := by decide +kernel
theorem dX6_init_67 : decode cX6_init 67 = .ok (.aastore, 1) := by decide +kernel
theorem dX6_init_68 : decode cX6_init 68 = .ok (.iinc 1 1, 3) := by decide +kernel
theorem dX6_init_71 : decode cX6_init 71 = .ok (.goto (-22), 3) := by decide +kernel
theorem dX6_init_74 : decode cX6_init 74 = .ok (.return_, 1) := by decide +kernel
theorem dX6_restart_0 : decode cX6_restart 0 = .ok (.aload_n 0, 1) := by decide +kernel
theorem dX6_restart_1 : decode cX6_restart 1 = .ok (.iconst 0, 1) := by decide +kernel
theorem dX6_restart_2 : decode cX6_restart 2 = .ok (.putfield 25, 3) := by decide +kernel
theorem dX6_restart_5 : decode cX6_restart 5 = .ok (.aload_n 0, 1) := by decide +kernel
theorem dX6_restart_6 : decode cX6_restart 6 = .ok (.iconst 0, 1) := by decide +kernel
theorem dX6_restart_7 : decode cX6_restart 7 = .ok (.putfield 29, 3) := by decide +kernel
theorem dX6_restart_10 : decode cX6_restart 10 = .ok (.return_, 1) := by decide +kernel
theorem dX6_beginArea_0 : decode cX6_beginArea 0 = .ok (.aload_n 0, 1) := by decide +kernel
theorem dX6_beginArea_1 : decode cX6_beginArea 1 = .ok (.getfield 11, 3) := by decide +kernel
theorem dX6_beginArea_4 : decode cX6_beginArea 4 = .ok (.aload_n 0, 1) := by decide +kernel
theorem dX6_beginArea_5 : decode cX6_beginArea 5 = .ok (.getfield 25, 3) := by decide +kernel
theorem dX6_beginArea_8 : decode cX6_beginArea 8 = .ok (.aaload, 1) := by decide +kernel
theorem dX6_beginArea_9 : decode cX6_beginArea 9 = .ok (.iload_n 1, 1) := by decide +kernel
theorem dX6_beginArea_10 : decode cX6_beginArea 10 = .ok (.iload_n 2, 1) := by decide +kernel
theorem dX6_beginArea_11 : decode cX6_beginArea 11 = .ok (.invokevirtual 32, 3) := by decide +kernel
theorem dX6_beginArea_14 : decode cX6_beginArea 14 = .ok (.aload_n 0, 1) := by decide +kernel
theorem dX6_beginArea_15 : decode cX6_beginArea 15 = .ok (.dup, 1) := by decide +kernel
theorem dX6_beginArea_16 : decode cX6_beginArea 16 = .ok (.getfield 25, 3) := by decide +kernel
theorem dX6_beginArea_19 : decode cX6_beginArea 19 = .ok (.iconst 1, 1) := by decide +kernel
theorem dX6_beginArea_20 : decode cX6_beginArea 20 = .ok (.iadd, 1) := by decide +kernel
theorem dX6_beginArea_21 : decode cX6_beginArea 21 = .ok (.putfield 25, 3) := by decide +kernel
theorem dX6_beginArea_24 : decode cX6_beginArea 24 = .ok (.return_, 1) := by decide +kernel
theorem dX6_beginVoter_0 : decode cX6_beginVoter 0 = .ok (.aload_n 0, 1) := by decide +kernel
theorem dX6_beginVoter_1 : decode cX6_beginVoter 1 = .ok (.getfield 19, 3) := by decide +kernel
theorem dX6_beginVoter_4 : decode cX6_beginVoter 4 = .ok (.aload_n 0, 1) := by decide +kernel
theorem dX6_beginVoter_5 : decode cX6_beginVoter 5 = .ok (.getfield 29, 3) := by decide +kernel
theorem dX6_beginVoter_8 : decode cX6_beginVoter 8 = .ok (.aaload, 1) := by decide +kernel
theorem dX6_beginVoter_9 : decode cX6_beginVoter 9 = .ok (.iload_n 1, 1) := by decide +kernel
theorem dX6_beginVoter_10 : decode cX6_beginVoter 10 = .ok (.invokevirtual 36, 3) := by decide +kernel
theorem dX6_beginVoter_13 : decode cX6_beginVoter 13 = .ok (.aload_n 0, 1) := by decide +kernel
theorem dX6_beginVoter_14 : decode cX6_beginVoter 14 = .ok (.dup, 1) := by decide +kernel
theorem dX6_beginVoter_15 : decode cX6_beginVoter 15 = .ok (.getfield 29, 3) := by decide +kernel
theorem dX6_beginVoter_18 : decode cX6_beginVoter 18 = .ok (.iconst 1, 1) := by decide +kernel
theorem dX6_beginVoter_19 : decode cX6_beginVoter 19 = .ok (.iadd, 1) := by decide +kernel
theorem dX6_beginVoter_20 : decode cX6_beginVoter 20 = .ok (.putfield 29, 3) := by decide +kernel
theorem dX6_beginVoter_23 : decode cX6_beginVoter 23 = .ok (.return_, 1) := by decide +kernel
theorem dX6_countOnRoll_0 : decode cX6_countOnRoll 0 = .ok (.iconst 0, 1) := by decide +kernel
theorem dX6_countOnRoll_1 : decode cX6_countOnRoll 1 = .ok (.istore_n 1, 1) := by decide +kernel
theorem dX6_countOnRoll_2 : decode cX6_countOnRoll 2 = .ok (.iconst 0, 1) := by decide +kernel
theorem dX6_countOnRoll_3 : decode cX6_countOnRoll 3 = .ok (.istore_n 2, 1) := by decide +kernel
theorem dX6_countOnRoll_4 : decode cX6_countOnRoll 4 = .ok (.iload_n 2, 1) := by decide +kernel
theorem dX6_countOnRoll_5 : decode cX6_countOnRoll 5 = .ok (.aload_n 0, 1) := by decide +kernel
theorem dX6_countOnRoll_6 : decode cX6_countOnRoll 6 = .ok (.getfield 29, 3) := by decide +kernel
theorem dX6_countOnRoll_9 : decode cX6_countOnRoll 9 = .ok (.if_icmp .ge 24, 3) := by decide +kernel
theorem dX6_countOnRoll_12 : decode cX6_countOnRoll 12 = .ok (.aload_n 0, 1) := by decide +kernel
theorem dX6_countOnRoll_13 : decode cX6_countOnRoll 13 = .ok (.getfield 19, 3) := by decide +kernel
theorem dX6_countOnRoll_16 : decode cX6_countOnRoll 16 = .ok (.iload_n 2, 1) := by decide +kernel
theorem dX6_countOnRoll_17 : decode cX6_countOnRoll 17 = .ok (.aaload, 1) := by decide +kernel
theorem dX6_countOnRoll_18 : decode cX6_countOnRoll 18 = .ok (.getfield 39, 3) := by decide +kernel
theorem dX6_countOnRoll_21 : decode cX6_countOnRoll 21 = .ok (.ifCond .eq 6, 3) := by decide +kernel
theorem dX6_countOnRoll_24 : decode cX6_countOnRoll 24 = .ok (.iinc 1 1, 3) := by decide +kernel
theorem dX6_countOnRoll_27 : decode cX6_countOnRoll 27 = .ok (.iinc 2 1, 3) := by decide +kernel
theorem dX6_countOnRoll_30 : decode cX6_countOnRoll 30 = .ok (.goto (-26), 3) := by decide +kernel
theorem dX6_countOnRoll_33 : decode cX6_countOnRoll 33 = .ok (.iload_n 1, 1) := by decide +kernel
theorem dX6_countOnRoll_34 : decode cX6_countOnRoll 34 = .ok (.ireturn, 1) := by decide +kernel
theorem dX7_init_0 : decode cX7_init 0 = .ok (.aload_n 0, 1) := by decide +kernel
theorem dX7_init_1 : decode cX7_init 1 = .ok (.invokespecial 3, 3) := by decide +kernel
theorem dX7_init_4 : decode cX7_init 4 = .ok (.return_, 1) := by decide +kernel
theorem dX7_begin_0 : decode cX7_begin 0 = .ok (.aload_n 0, 1) := by decide +kernel
theorem dX7_begin_1 : decode cX7_begin 1 = .ok (.iload_n 1, 1) := by decide +kernel
theorem dX7_begin_2 : decode cX7_begin 2 = .ok (.putfield 9, 3) := by decide +kernel
theorem dX7_begin_5 : decode cX7_begin 5 = .ok (.aload_n 0, 1) := by decide +kernel
theorem dX7_begin_6 : decode cX7_begin 6 = .ok (.iload_n 2, 1) := by decide +kernel
theorem dX7_begin_7 : decode cX7_begin 7 = .ok (.putfield 15, 3) := by decide +kernel
theorem dX7_begin_10 : decode cX7_begin 10 = .ok (.aload_n 0, 1) := by decide +kernel
theorem dX7_begin_11 : decode cX7_begin 11 = .ok (.iload_n 3, 1) := by decide +kernel
theorem dX7_begin_12 : decode cX7_begin 12 = .ok (.putfield 18, 3) := by decide +kernel
theorem dX7_begin_15 : decode cX7_begin 15 = .ok (.aload_n 0, 1) := by decide +kernel
theorem dX7_begin_16 : decode cX7_begin 16 = .ok (.iload 4, 2) := by decide +kernel
theorem dX7_begin_18 : decode cX7_begin 18 = .ok (.putfield 22, 3) := by decide +kernel
theorem dX7_begin_21 : decode cX7_begin 21 = .ok (.aload_n 0, 1) := by decide +kernel
theorem dX7_begin_22 : decode cX7_begin 22 = .ok (.iconst 0, 1) := by decide +kernel
theorem dX7_begin_23 : decode cX7_begin 23 = .ok (.putfield 25, 3) := by decide +kernel
theorem dX7_begin_26 : decode cX7_begin 26 = .ok (.return_, 1) := by decide +kernel
theorem dX8_init_0 : decode cX8_init 0 = .ok (.aload_n 0, 1) := by decide +kernel
theorem dX8_init_1 : decode cX8_init 1 = .ok (.invokespecial 1, 3) := by decide +kernel
theorem dX8_init_4 : decode cX8_init 4 = .ok (.return_, 1) := by decide +kernel
theorem dX8_begin_0 : decode cX8_begin 0 = .ok (.aload_n 0, 1) := by decide +kernel
theorem dX8_begin_1 : decode cX8_begin 1 = .ok (.iload_n 1, 1) := by decide +kernel
theorem dX8_begin_2 : decode cX8_begin 2 = .ok (.putfield 7, 3) := by decide +kernel
theorem dX8_begin_5 : decode cX8_begin 5 = .ok (.aload_n 0, 1) := by decide +kernel
theorem dX8_begin_6 : decode cX8_begin 6 = .ok (.iconst 1, 1) := by decide +kernel
theorem dX8_begin_7 : decode cX8_begin 7 = .ok (.putfield 13, 3) := by decide +kernel
theorem dX8_begin_10 : decode cX8_begin 10 = .ok (.aload_n 0, 1) := by decide +kernel
theorem dX8_begin_11 : decode cX8_begin 11 = .ok (.iconst 0, 1) := by decide +kernel
theorem dX8_begin_12 : decode cX8_begin 12 = .ok (.putfield 17, 3) := by decide +kernel
theorem dX8_begin_15 : decode cX8_begin 15 = .ok (.return_, 1) := by decide +kernel
theorem dX9_init_0 : decode cX9_init 0 = .ok (.aload_n 0, 1) := by decide +kernel
theorem dX9_init_1 : decode cX9_init 1 = .ok (.invokespecial 1, 3) := by decide +kernel
theorem dX9_init_4 : decode cX9_init 4 = .ok (.aload_n 0, 1) := by decide +kernel
theorem dX9_init_5 : decode cX9_init 5 = .ok (.new 7, 3) := by decide +kernel
theorem dX9_init_8 : decode cX9_init 8 = .ok (.dup, 1) := by decide +kernel
theorem dX9_init_9 : decode cX9_init 9 = .ok (.invokespecial 9, 3) := by decide +kernel
theorem dX9_init_12 : decode cX9_init 12 = .ok (.putfield 10, 3) := by decide +kernel
theorem dX9_init_15 : decode cX9_init 15 = .ok (.aload_n 0, 1) := by decide +kernel
theorem dX9_init_16 : decode cX9_init 16 = .ok (.new 7, 3) := by decide +kernel
theorem dX9_init_19 : decode cX9_init 19 = .ok (.dup, 1) := by decide +kernel
theorem dX9_init_20 : decode cX9_init 20 = .ok (.invokespecial 9, 3) := by decide +kernel
theorem dX9_init_23 : decode cX9_init 23 = .ok (.putfield 16, 3) := by decide +kernel
theorem dX9_init_26 : decode cX9_init 26 = .ok (.aload_n 0, 1) := by decide +kernel
theorem dX9_init_27 : decode cX9_init 27 = .ok (.new 19, 3) := by decide +kernel
theorem dX9_init_30 : decode cX9_init 30 = .ok (.dup, 1) := by decide +kernel
theorem dX9_init_31 : decode cX9_init 31 = .ok (.invokespecial 21, 3) := by decide +kernel
theorem dX9_init_34 : decode cX9_init 34 = .ok (.putfield 22, 3) := by decide +kernel
theorem dX9_init_37 : decode cX9_init 37 = .ok (.return_, 1) := by decide +kernel
theorem dX9_pass_0 : decode cX9_pass 0 = .ok (.iload_n 1, 1) := by decide +kernel
theorem dX9_pass_1 : decode cX9_pass 1 = .ok (.iconst 1, 1) := by decide +kernel
theorem dX9_pass_2 : decode cX9_pass 2 = .ok (.if_icmp .lt 9, 3) := by decide +kernel
theorem dX9_pass_5 : decode cX9_pass 5 = .ok (.iload_n 1, 1) := by decide +kernel
theorem dX9_pass_6 : decode cX9_pass 6 = .ok (.bipush 30, 2) := by decide +kernel
theorem dX9_pass_8 : decode cX9_pass 8 = .ok (.if_icmp .le 13, 3) := by decide +kernel
theorem dX9_pass_11 : decode cX9_pass 11 = .ok (.new 26, 3) := by decide +kernel
theorem dX9_pass_14 : decode cX9_pass 14 = .ok (.dup, 1) := by decide +kernel
theorem dX9_pass_15 : decode cX9_pass 15 = .ok (.ldc 58, 2) := by decide +kernel
theorem dX9_pass_17 : decode cX9_pass 17 = .ok (.invokespecial 30, 3) := by decide +kernel
theorem dX9_pass_20 : decode cX9_pass 20 = .ok (.athrow, 1) := by decide +kernel
theorem dX9_pass_21 : decode cX9_pass 21 = .ok (.aload_n 0, 1) := by decide +kernel
theorem dX9_pass_22 : decode cX9_pass 22 = .ok (.getfield 10, 3) := by decide +kernel
theorem dX9_pass_25 : decode cX9_pass 25 = .ok (.getfield 33, 3) := by decide +kernel
theorem dX9_pass_28 : decode cX9_pass 28 = .ok (.getfield 37, 3) := by decide +kernel
theorem dX9_pass_31 : decode cX9_pass 31 = .ok (.iload_n 1, 1) := by decide +kernel
theorem dX9_pass_32 : decode cX9_pass 32 = .ok (.iadd, 1) := by decide +kernel
theorem dX9_pass_33 : decode cX9_pass 33 = .ok (.bipush 99, 2) := by decide +kernel
theorem dX9_pass_35 : decode cX9_pass 35 = .ok (.if_icmp .le 13, 3) := by decide +kernel
theorem dX9_pass_38 : decode cX9_pass 38 = .ok (.new 46, 3) := by decide +kernel
theorem dX9_pass_41 : decode cX9_pass 41 = .ok (.dup, 1) := by decide +kernel
theorem dX9_pass_42 : decode cX9_pass 42 = .ok (.ldc 60, 2) := by decide +kernel
theorem dX9_pass_44 : decode cX9_pass 44 = .ok (.invokespecial 50, 3) := by decide +kernel
theorem dX9_pass_47 : decode cX9_pass 47 = .ok (.athrow, 1) := by decide +kernel
theorem dX9_pass_48 : decode cX9_pass 48 = .ok (.aload_n 0, 1) := by decide +kernel
theorem dX9_pass_49 : decode cX9_pass 49 = .ok (.iconst 1, 1) := by decide +kernel
theorem dX9_pass_50 : decode cX9_pass 50 = .ok (.iload_n 1, 1) := by decide +kernel
theorem dX9_pass_51 : decode cX9_pass 51 = .ok (.iconst 0, 1) := by decide +kernel
theorem dX9_pass_52 : decode cX9_pass 52 = .ok (.iconst 0, 1) := by decide +kernel
theorem dX9_pass_53 : decode cX9_pass 53 = .ok (.invokevirtual 54, 3) := by decide +kernel
theorem dX9_pass_56 : decode cX9_pass 56 = .ok (.aload_n 0, 1) := by decide +kernel
theorem dX9_pass_57 : decode cX9_pass 57 = .ok (.getfield 10, 3) := by decide +kernel
theorem dX9_pass_60 : decode cX9_pass 60 = .ok (.getfield 33, 3) := by decide +kernel
theorem dX9_pass_63 : decode cX9_pass 63 = .ok (.getfield 37, 3) := by decide +kernel
theorem dX9_pass_66 : decode cX9_pass 66 = .ok (.ireturn, 1) := by decide +kernel
theorem dX9_day_0 : decode cX9_day 0 = .ok (.aload_n 0, 1) := by decide +kernel
theorem dX9_day_1 : decode cX9_day 1 = .ok (.getfield 10, 3) := by decide +kernel
theorem dX9_day_4 : decode cX9_day 4 = .ok (.getfield 33, 3) := by decide +kernel
theorem dX9_day_7 : decode cX9_day 7 = .ok (.getfield 37, 3) := by decide +kernel
theorem dX9_day_10 : decode cX9_day 10 = .ok (.ireturn, 1) := by decide +kernel
theorem dX9_isOpen_0 : decode cX9_isOpen 0 = .ok (.aload_n 0, 1) := by decide +kernel
theorem dX9_isOpen_1 : decode cX9_isOpen 1 = .ok (.getfield 10, 3) := by decide +kernel
theorem dX9_isOpen_4 : decode cX9_isOpen 4 = .ok (.getfield 33, 3) := by decide +kernel
theorem dX9_isOpen_7 : decode cX9_isOpen 7 = .ok (.invokevirtual 62, 3) := by decide +kernel
theorem dX9_isOpen_10 : decode cX9_isOpen 10 = .ok (.ireturn, 1) := by decide +kernel
theorem dX9_addArea_0 : decode cX9_addArea 0 = .ok (.iload_n 1, 1) := by decide +kernel
theorem dX9_addArea_1 : decode cX9_addArea 1 = .ok (.iconst 1, 1) := by decide +kernel
theorem dX9_addArea_2 : decode cX9_addArea 2 = .ok (.if_icmp .lt 20, 3) := by decide +kernel
theorem dX9_addArea_5 : decode cX9_addArea 5 = .ok (.iload_n 1, 1) := by decide +kernel
theorem dX9_addArea_6 : decode cX9_addArea 6 = .ok (.bipush 10, 2) := by decide +kernel
theorem dX9_addArea_8 : decode cX9_addArea 8 = .ok (.if_icmp .gt 14, 3) := by decide +kernel
theorem dX9_addArea_11 : decode cX9_addArea 11 = .ok (.iload_n 2, 1) := by decide +kernel
theorem dX9_addArea_12 : decode cX9_addArea 12 = .ok (.ifCond .lt 10, 3) := by decide +kernel
theorem dX9_addArea_15 : decode cX9_addArea 15 = .ok (.iload_n 2, 1) := by decide +kernel
theorem dX9_addArea_16 : decode cX9_addArea 16 = .ok (.sipush 1000, 3) := by decide +kernel
theorem dX9_addArea_19 : decode cX9_addArea 19 = .ok (.if_icmp .le 13, 3) := by decide +kernel
theorem dX9_addArea_22 : decode cX9_addArea 22 = .ok (.new 26, 3) := by decide +kernel
theorem dX9_addArea_25 : decode cX9_addArea 25 = .ok (.dup, 1) := by decide +kernel
theorem dX9_addArea_26 : decode cX9_addArea 26 = .ok (.ldc 66, 2) := by decide +kernel
theorem dX9_addArea_28 : decode cX9_addArea 28 = .ok (.invokespecial 30, 3) := by decide +kernel
theorem dX9_addArea_31 : decode cX9_addArea 31 = .ok (.athrow, 1) := by decide +kernel
theorem dX9_addArea_32 : decode cX9_addArea 32 = .ok (.aload_n 0, 1) := by decide +kernel
theorem dX9_addArea_33 : decode cX9_addArea 33 = .ok (.getfield 10, 3) := by decide +kernel
theorem dX9_addArea_36 : decode cX9_addArea 36 = .ok (.getfield 68, 3) := by decide +kernel
theorem dX9_addArea_39 : decode cX9_addArea 39 = .ok (.getfield 72, 3) := by decide +kernel
theorem dX9_addArea_42 : decode cX9_addArea 42 = .ok (.iconst 5, 1) := by decide +kernel
theorem dX9_addArea_43 : decode cX9_addArea 43 = .ok (.if_icmp .lt 13, 3) := by decide +kernel
theorem dX9_addArea_46 : decode cX9_addArea 46 = .ok (.new 46, 3) := by decide +kernel
theorem dX9_addArea_49 : decode cX9_addArea 49 = .ok (.dup, 1) := by decide +kernel
theorem dX9_addArea_50 : decode cX9_addArea 50 = .ok (.ldc 77, 2) := by decide +kernel
theorem dX9_addArea_52 : decode cX9_addArea 52 = .ok (.invokespecial 50, 3) := by decide +kernel
theorem dX9_addArea_55 : decode cX9_addArea 55 = .ok (.athrow, 1) := by decide +kernel
theorem dX9_addArea_56 : decode cX9_addArea 56 = .ok (.aload_n 0, 1) := by decide +kernel
theorem dX9_addArea_57 : decode cX9_addArea 57 = .ok (.iconst 2, 1) := by decide +kernel
theorem dX9_addArea_58 : decode cX9_addArea 58 = .ok (.iload_n 1, 1) := by decide +kernel
theorem dX9_addArea_59 : decode cX9_addArea 59 = .ok (.iload_n 2, 1) := by decide +kernel
theorem dX9_addArea_60 : decode cX9_addArea 60 = .ok (.iconst 0, 1) := by decide +kernel
theorem dX9_addArea_61 : decode cX9_addArea 61 = .ok (.invokevirtual 54, 3) := by decide +kernel
theorem dX9_addArea_64 : decode cX9_addArea 64 = .ok (.aload_n 0, 1) := by decide +kernel
theorem dX9_addArea_65 : decode cX9_addArea 65 = .ok (.getfield 10, 3) := by decide +kernel
theorem dX9_addArea_68 : decode cX9_addArea 68 = .ok (.getfield 68, 3) := by decide +kernel
theorem dX9_addArea_71 : decode cX9_addArea 71 = .ok (.getfield 72, 3) := by decide +kernel
theorem dX9_addArea_74 : decode cX9_addArea 74 = .ok (.iconst 1, 1) := by decide +kernel
theorem dX9_addArea_75 : decode cX9_addArea 75 = .ok (.isub, 1) := by decide +kernel
theorem dX9_addArea_76 : decode cX9_addArea 76 = .ok (.ireturn, 1) := by decide +kernel
theorem dX9_addVoter_0 : decode cX9_addVoter 0 = .ok (.aload_n 0, 1) := by decide +kernel
theorem dX9_addVoter_1 : decode cX9_addVoter 1 = .ok (.iload_n 1, 1) := by decide +kernel
theorem dX9_addVoter_2 : decode cX9_addVoter 2 = .ok (.invokevirtual 79, 3) := by decide +kernel
theorem dX9_addVoter_5 : decode cX9_addVoter 5 = .ok (.aload_n 0, 1) := by decide +kernel
theorem dX9_addVoter_6 : decode cX9_addVoter 6 = .ok (.getfield 10, 3) := by decide +kernel
theorem dX9_addVoter_9 : decode cX9_addVoter 9 = .ok (.getfield 68, 3) := by decide +kernel
theorem dX9_addVoter_12 : decode cX9_addVoter 12 = .ok (.getfield 83, 3) := by decide +kernel
theorem dX9_addVoter_15 : decode cX9_addVoter 15 = .ok (.bipush 40, 2) := by decide +kernel
theorem dX9_addVoter_17 : decode cX9_addVoter 17 = .ok (.if_icmp .lt 13, 3) := by decide +kernel
theorem dX9_addVoter_20 : decode cX9_addVoter 20 = .ok (.new 46, 3) := by decide +kernel
theorem dX9_addVoter_23 : decode cX9_addVoter 23 = .ok (.dup, 1) := by decide +kernel
theorem dX9_addVoter_24 : decode cX9_addVoter 24 = .ok (.ldc 86, 2) := by decide +kernel
theorem dX9_addVoter_26 : decode cX9_addVoter 26 = .ok (.invokespecial 50, 3) := by decide +kernel
theorem dX9_addVoter_29 : decode cX9_addVoter 29 = .ok (.athrow, 1) := by decide +kernel
theorem dX9_addVoter_30 : decode cX9_addVoter 30 = .ok (.aload_n 0, 1) := by decide +kernel
theorem dX9_addVoter_31 : decode cX9_addVoter 31 = .ok (.iconst 3, 1) := by decide +kernel
theorem dX9_addVoter_32 : decode cX9_addVoter 32 = .ok (.iload_n 1, 1) := by decide +kernel
theorem dX9_addVoter_33 : decode cX9_addVoter 33 = .ok (.iconst 0, 1) := by decide +kernel
theorem dX9_addVoter_34 : decode cX9_addVoter 34 = .ok (.iconst 0, 1) := by decide +kernel
theorem dX9_addVoter_35 : decode cX9_addVoter 35 = .ok (.invokevirtual 54, 3) := by decide +kernel
theorem dX9_addVoter_38 : decode cX9_addVoter 38 = .ok (.aload_n 0, 1) := by decide +kernel
theorem dX9_addVoter_39 : decode cX9_addVoter 39 = .ok (.getfield 10, 3) := by decide +kernel
theorem dX9_addVoter_42 : decode cX9_addVoter 42 = .ok (.getfield 68, 3) := by decide +kernel
theorem dX9_addVoter_45 : decode cX9_addVoter 45 = .ok (.getfield 83, 3) := by decide +kernel
theorem dX9_addVoter_48 : decode cX9_addVoter 48 = .ok (.iconst 1, 1) := by decide +kernel
theorem dX9_addVoter_49 : decode cX9_addVoter 49 = .ok (.isub, 1) := by decide +kernel
theorem dX9_addVoter_50 : decode cX9_addVoter 50 = .ok (.ireturn, 1) := by decide +kernel
theorem dX9_move_0 : decode cX9_move 0 = .ok (.aload_n 0, 1) := by decide +kernel
theorem dX9_move_1 : decode cX9_move 1 = .ok (.iload_n 1, 1) := by decide +kernel
theorem dX9_move_2 : decode cX9_move 2 = .ok (.invokevirtual 88, 3) := by decide +kernel
theorem dX9_move_5 : decode cX9_move 5 = .ok (.aload_n 0, 1) := by decide +kernel
theorem dX9_move_6 : decode cX9_move 6 = .ok (.iload_n 2, 1) := by decide +kernel
theorem dX9_move_7 : decode cX9_move 7 = .ok (.invokevirtual 79, 3) := by decide +kernel
theorem dX9_move_10 : decode cX9_move 10 = .ok (.aload_n 0, 1) := by decide +kernel
theorem dX9_move_11 : decode cX9_move 11 = .ok (.getfield 10, 3) := by decide +kernel
theorem dX9_move_14 : decode cX9_move 14 = .ok (.getfield 68, 3) := by decide +kernel
theorem dX9_move_17 : decode cX9_move 17 = .ok (.getfield 91, 3) := by decide +kernel
theorem dX9_move_20 : decode cX9_move 20 = .ok (.iload_n 1, 1) := by decide +kernel
theorem dX9_move_21 : decode cX9_move 21 = .ok (.aaload, 1) := by decide +kernel
theorem dX9_move_22 : decode cX9_move 22 = .ok (.getfield 95, 3) := by decide +kernel
theorem dX9_move_25 : decode cX9_move 25 = .ok (.istore_n 3, 1) := by decide +kernel
theorem dX9_move_26 : decode cX9_move 26 = .ok (.iload_n 3, 1) := by decide +kernel
theorem dX9_move_27 : decode cX9_move 27 = .ok (.iload_n 2, 1) := by decide +kernel
theorem dX9_move_28 : decode cX9_move 28 = .ok (.if_icmp .ne 13, 3) := by decide +kernel
theorem dX9_move_31 : decode cX9_move 31 = .ok (.new 100, 3) := by decide +kernel
theorem dX9_move_34 : decode cX9_move 34 = .ok (.dup, 1) := by decide +kernel
theorem dX9_move_35 : decode cX9_move 35 = .ok (.ldc 102, 2) := by decide +kernel
theorem dX9_move_37 : decode cX9_move 37 = .ok (.invokespecial 104, 3) := by decide +kernel
theorem dX9_move_40 : decode cX9_move 40 = .ok (.athrow, 1) := by decide +kernel
theorem dX9_move_41 : decode cX9_move 41 = .ok (.aload_n 0, 1) := by decide +kernel
theorem dX9_move_42 : decode cX9_move 42 = .ok (.iconst 4, 1) := by decide +kernel
theorem dX9_move_43 : decode cX9_move 43 = .ok (.iload_n 1, 1) := by decide +kernel
theorem dX9_move_44 : decode cX9_move 44 = .ok (.iload_n 2, 1) := by decide +kernel
theorem dX9_move_45 : decode cX9_move 45 = .ok (.iconst 0, 1) := by decide +kernel
theorem dX9_move_46 : decode cX9_move 46 = .ok (.invokevirtual 54, 3) := by decide +kernel
theorem dX9_move_49 : decode cX9_move 49 = .ok (.iload_n 3, 1) := by decide +kernel
theorem dX9_move_50 : decode cX9_move 50 = .ok (.ireturn, 1) := by decide +kernel
theorem dX9_strike_0 : decode cX9_strike 0 = .ok (.aload_n 0, 1) := by decide +kernel
theorem dX9_strike_1 : decode cX9_strike 1 = .ok (.iload_n 1, 1) := by decide +kernel
theorem dX9_strike_2 : decode cX9_strike 2 = .ok (.invokevirtual 88, 3) := by decide +kernel
theorem dX9_strike_5 : decode cX9_strike 5 = .ok (.aload_n 0, 1) := by decide +kernel
theorem dX9_strike_6 : decode cX9_strike 6 = .ok (.getfield 10, 3) := by decide +kernel
theorem dX9_strike_9 : decode cX9_strike 9 = .ok (.getfield 68, 3) := by decide +kernel
theorem dX9_strike_12 : decode cX9_strike 12 = .ok (.getfield 91, 3) := by decide +kernel
theorem dX9_strike_15 : decode cX9_strike 15 = .ok (.iload_n 1, 1) := by decide +kernel
theorem dX9_strike_16 : decode cX9_strike 16 = .ok (.aaload, 1) := by decide +kernel
theorem dX9_strike_17 : decode cX9_strike 17 = .ok (.getfield 105, 3) := by decide +kernel
theorem dX9_strike_20 : decode cX9_strike 20 = .ok (.ifCond .ne 13, 3) := by decide +kernel
theorem dX9_strike_23 : decode cX9_strike 23 = .ok (.new 46, 3) := by decide +kernel
theorem dX9_strike_26 : decode cX9_strike 26 = .ok (.dup, 1) := by decide +kernel
theorem dX9_strike_27 : decode cX9_strike 27 = .ok (.ldc 109, 2) := by decide +kernel
theorem dX9_strike_29 : decode cX9_strike 29 = .ok (.invokespecial 50, 3) := by decide +kernel
theorem dX9_strike_32 : decode cX9_strike 32 = .ok (.athrow, 1) := by decide +kernel
theorem dX9_strike_33 : decode cX9_strike 33 = .ok (.aload_n 0, 1) := by decide +kernel
theorem dX9_strike_34 : decode cX9_strike 34 = .ok (.iconst 5, 1) := by decide +kernel
theorem dX9_strike_35 : decode cX9_strike 35 = .ok (.iload_n 1, 1) := by decide +kernel
theorem dX9_strike_36 : decode cX9_strike 36 = .ok (.iconst 0, 1) := by decide +kernel
theorem dX9_strike_37 : decode cX9_strike 37 = .ok (.iconst 0, 1) := by decide +kernel
theorem dX9_strike_38 : decode cX9_strike 38 = .ok (.invokevirtual 54, 3) := by decide +kernel
theorem dX9_strike_41 : decode cX9_strike 41 = .ok (.aload_n 0, 1) := by decide +kernel
theorem dX9_strike_42 : decode cX9_strike 42 = .ok (.getfield 10, 3) := by decide +kernel
theorem dX9_strike_45 : decode cX9_strike 45 = .ok (.getfield 68, 3) := by decide +kernel
theorem dX9_strike_48 : decode cX9_strike 48 = .ok (.invokevirtual 111, 3) := by decide +kernel
theorem dX9_strike_51 : decode cX9_strike 51 = .ok (.ireturn, 1) := by decide +kernel
theorem dX9_restore_0 : decode cX9_restore 0 = .ok (.aload_n 0, 1) := by decide +kernel
theorem dX9_restore_1 : decode cX9_restore 1 = .ok (.iload_n 1, 1) := by decide +kernel
theorem dX9_restore_2 : decode cX9_restore 2 = .ok (.invokevirtual 88, 3) := by decide +kernel
theorem dX9_restore_5 : decode cX9_restore 5 = .ok (.aload_n 0, 1) := by decide +kernel
theorem dX9_restore_6 : decode cX9_restore 6 = .ok (.getfield 10, 3) := by decide +kernel
theorem dX9_restore_9 : decode cX9_restore 9 = .ok (.getfield 68, 3) := by decide +kernel
theorem dX9_restore_12 : decode cX9_restore 12 = .ok (.getfield 91, 3) := by decide +kernel
theorem dX9_restore_15 : decode cX9_restore 15 = .ok (.iload_n 1, 1) := by decide +kernel
theorem dX9_restore_16 : decode cX9_restore 16 = .ok (.aaload, 1) := by decide +kernel
theorem dX9_restore_17 : decode cX9_restore 17 = .ok (.getfield 105, 3) := by decide +kernel
theorem dX9_restore_20 : decode cX9_restore 20 = .ok (.ifCond .eq 13, 3) := by decide +kernel
theorem dX9_restore_23 : decode cX9_restore 23 = .ok (.new 46, 3) := by decide +kernel
theorem dX9_restore_26 : decode cX9_restore 26 = .ok (.dup, 1) := by decide +kernel
theorem dX9_restore_27 : decode cX9_restore 27 = .ok (.ldc 115, 2) := by decide +kernel
theorem dX9_restore_29 : decode cX9_restore 29 = .ok (.invokespecial 50, 3) := by decide +kernel
theorem dX9_restore_32 : decode cX9_restore 32 = .ok (.athrow, 1) := by decide +kernel
theorem dX9_restore_33 : decode cX9_restore 33 = .ok (.aload_n 0, 1) := by decide +kernel
theorem dX9_restore_34 : decode cX9_restore 34 = .ok (.bipush 6, 2) := by decide +kernel
theorem dX9_restore_36 : decode cX9_restore 36 = .ok (.iload_n 1, 1) := by decide +kernel
theorem dX9_restore_37 : decode cX9_restore 37 = .ok (.iconst 0, 1) := by decide +kernel
theorem dX9_restore_38 : decode cX9_restore 38 = .ok (.iconst 0, 1) := by decide +kernel
theorem dX9_restore_39 : decode cX9_restore 39 = .ok (.invokevirtual 54, 3) := by decide +kernel
theorem dX9_restore_42 : decode cX9_restore 42 = .ok (.aload_n 0, 1) := by decide +kernel
theorem dX9_restore_43 : decode cX9_restore 43 = .ok (.getfield 10, 3) := by decide +kernel
theorem dX9_restore_46 : decode cX9_restore 46 = .ok (.getfield 68, 3) := by decide +kernel
theorem dX9_restore_49 : decode cX9_restore 49 = .ok (.invokevirtual 111, 3) := by decide +kernel
theorem dX9_restore_52 : decode cX9_restore 52 = .ok (.ireturn, 1) := by decide +kernel
theorem dX9_areaOf_0 : decode cX9_areaOf 0 = .ok (.aload_n 0, 1) := by decide +kernel
theorem dX9_areaOf_1 : decode cX9_areaOf 1 = .ok (.iload_n 1, 1) := by decide +kernel
theorem dX9_areaOf_2 : decode cX9_areaOf 2 = .ok (.invokevirtual 88, 3) := by decide +kernel
theorem dX9_areaOf_5 : decode cX9_areaOf 5 = .ok (.aload_n 0, 1) := by decide +kernel
theorem dX9_areaOf_6 : decode cX9_areaOf 6 = .ok (.getfield 10, 3) := by decide +kernel
theorem dX9_areaOf_9 : decode cX9_areaOf 9 = .ok (.getfield 68, 3) := by decide +kernel
theorem dX9_areaOf_12 : decode cX9_areaOf 12 = .ok (.getfield 91, 3) := by decide +kernel
theorem dX9_areaOf_15 : decode cX9_areaOf 15 = .ok (.iload_n 1, 1) := by decide +kernel
theorem dX9_areaOf_16 : decode cX9_areaOf 16 = .ok (.aaload, 1) := by decide +kernel
theorem dX9_areaOf_17 : decode cX9_areaOf 17 = .ok (.getfield 95, 3) := by decide +kernel
theorem dX9_areaOf_20 : decode cX9_areaOf 20 = .ok (.ireturn, 1) := by decide +kernel
theorem dX9_isOnRoll_0 : decode cX9_isOnRoll 0 = .ok (.aload_n 0, 1) := by decide +kernel
theorem dX9_isOnRoll_1 : decode cX9_isOnRoll 1 = .ok (.iload_n 1, 1) := by decide +kernel
theorem dX9_isOnRoll_2 : decode cX9_isOnRoll 2 = .ok (.invokevirtual 88, 3) := by decide +kernel
theorem dX9_isOnRoll_5 : decode cX9_isOnRoll 5 = .ok (.aload_n 0, 1) := by decide +kernel
theorem dX9_isOnRoll_6 : decode cX9_isOnRoll 6 = .ok (.getfield 10, 3) := by decide +kernel
theorem dX9_isOnRoll_9 : decode cX9_isOnRoll 9 = .ok (.getfield 68, 3) := by decide +kernel
theorem dX9_isOnRoll_12 : decode cX9_isOnRoll 12 = .ok (.getfield 91, 3) := by decide +kernel
theorem dX9_isOnRoll_15 : decode cX9_isOnRoll 15 = .ok (.iload_n 1, 1) := by decide +kernel
theorem dX9_isOnRoll_16 : decode cX9_isOnRoll 16 = .ok (.aaload, 1) := by decide +kernel
theorem dX9_isOnRoll_17 : decode cX9_isOnRoll 17 = .ok (.getfield 105, 3) := by decide +kernel
theorem dX9_isOnRoll_20 : decode cX9_isOnRoll 20 = .ok (.ireturn, 1) := by decide +kernel
theorem dX9_file_0 : decode cX9_file 0 = .ok (.aload_n 0, 1) := by decide +kernel
theorem dX9_file_1 : decode cX9_file 1 = .ok (.iload_n 1, 1) := by decide +kernel
theorem dX9_file_2 : decode cX9_file 2 = .ok (.invokevirtual 79, 3) := by decide +kernel
theorem dX9_file_5 : decode cX9_file 5 = .ok (.iload_n 2, 1) := by decide +kernel
theorem dX9_file_6 : decode cX9_file 6 = .ok (.iconst (-1), 1) := by decide +kernel
theorem dX9_file_7 : decode cX9_file 7 = .ok (.if_icmp .lt 9, 3) := by decide +kernel
theorem dX9_file_10 : decode cX9_file 10 = .ok (.iload_n 2, 1) := by decide +kernel
theorem dX9_file_11 : decode cX9_file 11 = .ok (.bipush 7, 2) := by decide +kernel
theorem dX9_file_13 : decode cX9_file 13 = .ok (.if_icmp .le 13, 3) := by decide +kernel
theorem dX9_file_16 : decode cX9_file 16 = .ok (.new 26, 3) := by decide +kernel
theorem dX9_file_19 : decode cX9_file 19 = .ok (.dup, 1) := by decide +kernel
theorem dX9_file_20 : decode cX9_file 20 = .ok (.ldc 117, 2) := by decide +kernel
theorem dX9_file_22 : decode cX9_file 22 = .ok (.invokespecial 30, 3) := by decide +kernel
theorem dX9_file_25 : decode cX9_file 25 = .ok (.athrow, 1) := by decide +kernel
theorem dX9_file_26 : decode cX9_file 26 = .ok (.aload_n 0, 1) := by decide +kernel
theorem dX9_file_27 : decode cX9_file 27 = .ok (.iload_n 3, 1) := by decide +kernel
theorem dX9_file_28 : decode cX9_file 28 = .ok (.iload 4, 2) := by decide +kernel
theorem dX9_file_30 : decode cX9_file 30 = .ok (.iload 5, 2) := by decide +kernel
theorem dX9_file_32 : decode cX9_file 32 = .ok (.iload 6, 2) := by decide +kernel
theorem dX9_file_34 : decode cX9_file 34 = .ok (.invokevirtual 119, 3) := by decide +kernel
theorem dX9_file_37 : decode cX9_file 37 = .ok (.aload_n 0, 1) := by decide +kernel
theorem dX9_file_38 : decode cX9_file 38 = .ok (.invokevirtual 123, 3) := by decide +kernel
theorem dX9_file_41 : decode cX9_file 41 = .ok (.aload_n 0, 1) := by decide +kernel
theorem dX9_file_42 : decode cX9_file 42 = .ok (.getfield 10, 3) := by decide +kernel
theorem dX9_file_45 : decode cX9_file 45 = .ok (.getfield 43, 3) := by decide +kernel
theorem dX9_file_48 : decode cX9_file 48 = .ok (.bipush 12, 2) := by decide +kernel
theorem dX9_file_50 : decode cX9_file 50 = .ok (.if_icmp .lt 13, 3) := by decide +kernel
theorem dX9_file_53 : decode cX9_file 53 = .ok (.new 46, 3) := by decide +kernel
theorem dX9_file_56 : decode cX9_file 56 = .ok (.dup, 1) := by decide +kernel
theorem dX9_file_57 : decode cX9_file 57 = .ok (.ldc 126, 2) := by decide +kernel
theorem dX9_file_59 : decode cX9_file 59 = .ok (.invokespecial 50, 3) := by decide +kernel
theorem dX9_file_62 : decode cX9_file 62 = .ok (.athrow, 1) := by decide +kernel
theorem dX9_file_63 : decode cX9_file 63 = .ok (.aload_n 0, 1) := by decide +kernel
theorem dX9_file_64 : decode cX9_file 64 = .ok (.bipush 7, 2) := by decide +kernel
theorem dX9_file_66 : decode cX9_file 66 = .ok (.iload_n 1, 1) := by decide +kernel
theorem dX9_file_67 : decode cX9_file 67 = .ok (.iload_n 2, 1) := by decide +kernel
theorem dX9_file_68 : decode cX9_file 68 = .ok (.iload_n 3, 1) := by decide +kernel
theorem dX9_file_69 : decode cX9_file 69 = .ok (.iload 4, 2) := by decide +kernel
theorem dX9_file_71 : decode cX9_file 71 = .ok (.iload 5, 2) := by decide +kernel
theorem dX9_file_73 : decode cX9_file 73 = .ok (.iload 6, 2) := by decide +kernel
theorem dX9_file_75 : decode cX9_file 75 = .ok (.invokestatic 128, 3) := by decide +kernel
theorem dX9_file_78 : decode cX9_file 78 = .ok (.invokevirtual 54, 3) := by decide +kernel
theorem dX9_file_81 : decode cX9_file 81 = .ok (.aload_n 0, 1) := by decide +kernel
theorem dX9_file_82 : decode cX9_file 82 = .ok (.getfield 10, 3) := by decide +kernel
theorem dX9_file_85 : decode cX9_file 85 = .ok (.getfield 43, 3) := by decide +kernel
theorem dX9_file_88 : decode cX9_file 88 = .ok (.iconst 1, 1) := by decide +kernel
theorem dX9_file_89 : decode cX9_file 89 = .ok (.isub, 1) := by decide +kernel
theorem dX9_file_90 : decode cX9_file 90 = .ok (.ireturn, 1) := by decide +kernel
theorem dX9_sign_0 : decode cX9_sign 0 = .ok (.aload_n 0, 1) := by decide +kernel
theorem dX9_sign_1 : decode cX9_sign 1 = .ok (.iload_n 1, 1) := by decide +kernel
theorem dX9_sign_2 : decode cX9_sign 2 = .ok (.invokevirtual 132, 3) := by decide +kernel
theorem dX9_sign_5 : decode cX9_sign 5 = .ok (.aload_n 0, 1) := by decide +kernel
theorem dX9_sign_6 : decode cX9_sign 6 = .ok (.iload_n 2, 1) := by decide +kernel
theorem dX9_sign_7 : decode cX9_sign 7 = .ok (.invokevirtual 88, 3) := by decide +kernel
theorem dX9_sign_10 : decode cX9_sign 10 = .ok (.aload_n 0, 1) := by decide +kernel
theorem dX9_sign_11 : decode cX9_sign 11 = .ok (.invokevirtual 123, 3) := by decide +kernel
theorem dX9_sign_14 : decode cX9_sign 14 = .ok (.aload_n 0, 1) := by decide +kernel
theorem dX9_sign_15 : decode cX9_sign 15 = .ok (.iload_n 1, 1) := by decide +kernel
theorem dX9_sign_16 : decode cX9_sign 16 = .ok (.invokevirtual 135, 3) := by decide +kernel
theorem dX9_sign_19 : decode cX9_sign 19 = .ok (.aload_n 0, 1) := by decide +kernel
theorem dX9_sign_20 : decode cX9_sign 20 = .ok (.getfield 10, 3) := by decide +kernel
theorem dX9_sign_23 : decode cX9_sign 23 = .ok (.getfield 138, 3) := by decide +kernel
theorem dX9_sign_26 : decode cX9_sign 26 = .ok (.sipush 150, 3) := by decide +kernel
theorem dX9_sign_29 : decode cX9_sign 29 = .ok (.if_icmp .lt 13, 3) := by decide +kernel
theorem dX9_sign_32 : decode cX9_sign 32 = .ok (.new 46, 3) := by decide +kernel
theorem dX9_sign_35 : decode cX9_sign 35 = .ok (.dup, 1) := by decide +kernel
theorem dX9_sign_36 : decode cX9_sign 36 = .ok (.ldc 141, 2) := by decide +kernel
theorem dX9_sign_38 : decode cX9_sign 38 = .ok (.invokespecial 50, 3) := by decide +kernel
theorem dX9_sign_41 : decode cX9_sign 41 = .ok (.athrow, 1) := by decide +kernel
theorem dX9_sign_42 : decode cX9_sign 42 = .ok (.aload_n 0, 1) := by decide +kernel
theorem dX9_sign_43 : decode cX9_sign 43 = .ok (.bipush 8, 2) := by decide +kernel
theorem dX9_sign_45 : decode cX9_sign 45 = .ok (.iload_n 1, 1) := by decide +kernel
theorem dX9_sign_46 : decode cX9_sign 46 = .ok (.iload_n 2, 1) := by decide +kernel
theorem dX9_sign_47 : decode cX9_sign 47 = .ok (.iconst 0, 1) := by decide +kernel
theorem dX9_sign_48 : decode cX9_sign 48 = .ok (.invokevirtual 54, 3) := by decide +kernel
theorem dX9_sign_51 : decode cX9_sign 51 = .ok (.aload_n 0, 1) := by decide +kernel
theorem dX9_sign_52 : decode cX9_sign 52 = .ok (.getfield 10, 3) := by decide +kernel
theorem dX9_sign_55 : decode cX9_sign 55 = .ok (.getfield 138, 3) := by decide +kernel
theorem dX9_sign_58 : decode cX9_sign 58 = .ok (.iconst 1, 1) := by decide +kernel
theorem dX9_sign_59 : decode cX9_sign 59 = .ok (.isub, 1) := by decide +kernel
theorem dX9_sign_60 : decode cX9_sign 60 = .ok (.ireturn, 1) := by decide +kernel
theorem dX9_pay_0 : decode cX9_pay 0 = .ok (.aload_n 0, 1) := by decide +kernel
theorem dX9_pay_1 : decode cX9_pay 1 = .ok (.iload_n 1, 1) := by decide +kernel
theorem dX9_pay_2 : decode cX9_pay 2 = .ok (.invokevirtual 132, 3) := by decide +kernel
theorem dX9_pay_5 : decode cX9_pay 5 = .ok (.iload_n 2, 1) := by decide +kernel
theorem dX9_pay_6 : decode cX9_pay 6 = .ok (.iconst 1, 1) := by decide +kernel
theorem dX9_pay_7 : decode cX9_pay 7 = .ok (.if_icmp .lt 10, 3) := by decide +kernel
theorem dX9_pay_10 : decode cX9_pay 10 = .ok (.iload_n 2, 1) := by decide +kernel
theorem dX9_pay_11 : decode cX9_pay 11 = .ok (.sipush 1000, 3) := by decide +kernel
theorem dX9_pay_14 : decode cX9_pay 14 = .ok (.if_icmp .le 13, 3) := by decide +kernel
theorem dX9_pay_17 : decode cX9_pay 17 = .ok (.new 26, 3) := by decide +kernel
theorem dX9_pay_20 : decode cX9_pay 20 = .ok (.dup, 1) := by decide +kernel
theorem dX9_pay_21 : decode cX9_pay 21 = .ok (.ldc 143, 2) := by decide +kernel
theorem dX9_pay_23 : decode cX9_pay 23 = .ok (.invokespecial 30, 3) := by decide +kernel
theorem dX9_pay_26 : decode cX9_pay 26 = .ok (.athrow, 1) := by decide +kernel
theorem dX9_pay_27 : decode cX9_pay 27 = .ok (.aload_n 0, 1) := by decide +kernel
theorem dX9_pay_28 : decode cX9_pay 28 = .ok (.invokevirtual 123, 3) := by decide +kernel
theorem dX9_pay_31 : decode cX9_pay 31 = .ok (.aload_n 0, 1) := by decide +kernel
theorem dX9_pay_32 : decode cX9_pay 32 = .ok (.iload_n 1, 1) := by decide +kernel
theorem dX9_pay_33 : decode cX9_pay 33 = .ok (.invokevirtual 135, 3) := by decide +kernel
theorem dX9_pay_36 : decode cX9_pay 36 = .ok (.aload_n 0, 1) := by decide +kernel
theorem dX9_pay_37 : decode cX9_pay 37 = .ok (.bipush 9, 2) := by decide +kernel
theorem dX9_pay_39 : decode cX9_pay 39 = .ok (.iload_n 1, 1) := by decide +kernel
theorem dX9_pay_40 : decode cX9_pay 40 = .ok (.iload_n 2, 1) := by decide +kernel
theorem dX9_pay_41 : decode cX9_pay 41 = .ok (.iconst 0, 1) := by decide +kernel
theorem dX9_pay_42 : decode cX9_pay 42 = .ok (.invokevirtual 54, 3) := by decide +kernel
theorem dX9_pay_45 : decode cX9_pay 45 = .ok (.aload_n 0, 1) := by decide +kernel
theorem dX9_pay_46 : decode cX9_pay 46 = .ok (.getfield 10, 3) := by decide +kernel
theorem dX9_pay_49 : decode cX9_pay 49 = .ok (.getfield 145, 3) := by decide +kernel
theorem dX9_pay_52 : decode cX9_pay 52 = .ok (.iload_n 1, 1) := by decide +kernel
theorem dX9_pay_53 : decode cX9_pay 53 = .ok (.aaload, 1) := by decide +kernel
theorem dX9_pay_54 : decode cX9_pay 54 = .ok (.getfield 149, 3) := by decide +kernel
theorem dX9_pay_57 : decode cX9_pay 57 = .ok (.ireturn, 1) := by decide +kernel
theorem dX9_withdraw_0 : decode cX9_withdraw 0 = .ok (.aload_n 0, 1) := by decide +kernel
theorem dX9_withdraw_1 : decode cX9_withdraw 1 = .ok (.iload_n 1, 1) := by decide +kernel
theorem dX9_withdraw_2 : decode cX9_withdraw 2 = .ok (.invokevirtual 132, 3) := by decide +kernel
theorem dX9_withdraw_5 : decode cX9_withdraw 5 = .ok (.aload_n 0, 1) := by decide +kernel
theorem dX9_withdraw_6 : decode cX9_withdraw 6 = .ok (.iload_n 1, 1) := by decide +kernel
theorem dX9_withdraw_7 : decode cX9_withdraw 7 = .ok (.invokevirtual 135, 3) := by decide +kernel
theorem dX9_withdraw_10 : decode cX9_withdraw 10 = .ok (.aload_n 0, 1) := by decide +kernel
theorem dX9_withdraw_11 : decode cX9_withdraw 11 = .ok (.iload_n 1, 1) := by decide +kernel
theorem dX9_withdraw_12 : decode cX9_withdraw 12 = .ok (.invokevirtual 154, 3) := by decide +kernel
theorem dX9_withdraw_15 : decode cX9_withdraw 15 = .ok (.aload_n 0, 1) := by decide +kernel
theorem dX9_withdraw_16 : decode cX9_withdraw 16 = .ok (.getfield 10, 3) := by decide +kernel
theorem dX9_withdraw_19 : decode cX9_withdraw 19 = .ok (.getfield 33, 3) := by decide +kernel
theorem dX9_withdraw_22 : decode cX9_withdraw 22 = .ok (.invokevirtual 157, 3) := by decide +kernel
theorem dX9_withdraw_25 : decode cX9_withdraw 25 = .ok (.ifCond .ne 13, 3) := by decide +kernel
theorem dX9_withdraw_28 : decode cX9_withdraw 28 = .ok (.new 46, 3) := by decide +kernel
theorem dX9_withdraw_31 : decode cX9_withdraw 31 = .ok (.dup, 1) := by decide +kernel
theorem dX9_withdraw_32 : decode cX9_withdraw 32 = .ok (.ldc 160, 2) := by decide +kernel
theorem dX9_withdraw_34 : decode cX9_withdraw 34 = .ok (.invokespecial 50, 3) := by decide +kernel
theorem dX9_withdraw_37 : decode cX9_withdraw 37 = .ok (.athrow, 1) := by decide +kernel
theorem dX9_withdraw_38 : decode cX9_withdraw 38 = .ok (.aload_n 0, 1) := by decide +kernel
theorem dX9_withdraw_39 : decode cX9_withdraw 39 = .ok (.getfield 10, 3) := by decide +kernel
theorem dX9_withdraw_42 : decode cX9_withdraw 42 = .ok (.iload_n 1, 1) := by decide +kernel
theorem dX9_withdraw_43 : decode cX9_withdraw 43 = .ok (.invokevirtual 162, 3) := by decide +kernel
theorem dX9_withdraw_46 : decode cX9_withdraw 46 = .ok (.istore_n 2, 1) := by decide +kernel
theorem dX9_withdraw_47 : decode cX9_withdraw 47 = .ok (.aload_n 0, 1) := by decide +kernel
theorem dX9_withdraw_48 : decode cX9_withdraw 48 = .ok (.bipush 10, 2) := by decide +kernel
theorem dX9_withdraw_50 : decode cX9_withdraw 50 = .ok (.iload_n 1, 1) := by decide +kernel
theorem dX9_withdraw_51 : decode cX9_withdraw 51 = .ok (.iconst 0, 1) := by decide +kernel
theorem dX9_withdraw_52 : decode cX9_withdraw 52 = .ok (.iconst 0, 1) := by decide +kernel
theorem dX9_withdraw_53 : decode cX9_withdraw 53 = .ok (.invokevirtual 54, 3) := by decide +kernel
theorem dX9_withdraw_56 : decode cX9_withdraw 56 = .ok (.aload_n 0, 1) := by decide +kernel
theorem dX9_withdraw_57 : decode cX9_withdraw 57 = .ok (.getfield 10, 3) := by decide +kernel
theorem dX9_withdraw_60 : decode cX9_withdraw 60 = .ok (.iload_n 1, 1) := by decide +kernel
theorem dX9_withdraw_61 : decode cX9_withdraw 61 = .ok (.invokevirtual 162, 3) := by decide +kernel
theorem dX9_withdraw_64 : decode cX9_withdraw 64 = .ok (.iload_n 2, 1) := by decide +kernel
theorem dX9_withdraw_65 : decode cX9_withdraw 65 = .ok (.isub, 1) := by decide +kernel
theorem dX9_withdraw_66 : decode cX9_withdraw 66 = .ok (.ireturn, 1) := by decide +kernel
theorem dX9_die_0 : decode cX9_die 0 = .ok (.aload_n 0, 1) := by decide +kernel
theorem dX9_die_1 : decode cX9_die 1 = .ok (.iload_n 1, 1) := by decide +kernel
theorem dX9_die_2 : decode cX9_die 2 = .ok (.invokevirtual 132, 3) := by decide +kernel
theorem dX9_die_5 : decode cX9_die 5 = .ok (.aload_n 0, 1) := by decide +kernel
theorem dX9_die_6 : decode cX9_die 6 = .ok (.iload_n 1, 1) := by decide +kernel
theorem dX9_die_7 : decode cX9_die 7 = .ok (.invokevirtual 135, 3) := by decide +kernel
theorem dX9_die_10 : decode cX9_die 10 = .ok (.aload_n 0, 1) := by decide +kernel
theorem dX9_die_11 : decode cX9_die 11 = .ok (.iload_n 1, 1) := by decide +kernel
theorem dX9_die_12 : decode cX9_die 12 = .ok (.invokevirtual 154, 3) := by decide +kernel
theorem dX9_die_15 : decode cX9_die 15 = .ok (.aload_n 0, 1) := by decide +kernel
theorem dX9_die_16 : decode cX9_die 16 = .ok (.getfield 10, 3) := by decide +kernel
theorem dX9_die_19 : decode cX9_die 19 = .ok (.getfield 145, 3) := by decide +kernel
theorem dX9_die_22 : decode cX9_die 22 = .ok (.iload_n 1, 1) := by decide +kernel
theorem dX9_die_23 : decode cX9_die 23 = .ok (.aaload, 1) := by decide +kernel
theorem dX9_die_24 : decode cX9_die 24 = .ok (.getfield 166, 3) := by decide +kernel
theorem dX9_die_27 : decode cX9_die 27 = .ok (.ifCond .eq 13, 3) := by decide +kernel
theorem dX9_die_30 : decode cX9_die 30 = .ok (.new 46, 3) := by decide +kernel
theorem dX9_die_33 : decode cX9_die 33 = .ok (.dup, 1) := by decide +kernel
theorem dX9_die_34 : decode cX9_die 34 = .ok (.ldc 169, 2) := by decide +kernel
theorem dX9_die_36 : decode cX9_die 36 = .ok (.invokespecial 50, 3) := by decide +kernel
theorem dX9_die_39 : decode cX9_die 39 = .ok (.athrow, 1) := by decide +kernel
theorem dX9_die_40 : decode cX9_die 40 = .ok (.aload_n 0, 1) := by decide +kernel
theorem dX9_die_41 : decode cX9_die 41 = .ok (.getfield 10, 3) := by decide +kernel
theorem dX9_die_44 : decode cX9_die 44 = .ok (.getfield 33, 3) := by decide +kernel
theorem dX9_die_47 : decode cX9_die 47 = .ok (.invokevirtual 171, 3) := by decide +kernel
theorem dX9_die_50 : decode cX9_die 50 = .ok (.ifCond .eq 13, 3) := by decide +kernel
theorem dX9_die_53 : decode cX9_die 53 = .ok (.new 46, 3) := by decide +kernel
theorem dX9_die_56 : decode cX9_die 56 = .ok (.dup, 1) := by decide +kernel
theorem dX9_die_57 : decode cX9_die 57 = .ok (.ldc 174, 2) := by decide +kernel
theorem dX9_die_59 : decode cX9_die 59 = .ok (.invokespecial 50, 3) := by decide +kernel
theorem dX9_die_62 : decode cX9_die 62 = .ok (.athrow, 1) := by decide +kernel
theorem dX9_die_63 : decode cX9_die 63 = .ok (.aload_n 0, 1) := by decide +kernel
theorem dX9_die_64 : decode cX9_die 64 = .ok (.bipush 11, 2) := by decide +kernel
theorem dX9_die_66 : decode cX9_die 66 = .ok (.iload_n 1, 1) := by decide +kernel
theorem dX9_die_67 : decode cX9_die 67 = .ok (.iconst 0, 1) := by decide +kernel
theorem dX9_die_68 : decode cX9_die 68 = .ok (.iconst 0, 1) := by decide +kernel
theorem dX9_die_69 : decode cX9_die 69 = .ok (.invokevirtual 54, 3) := by decide +kernel
theorem dX9_die_72 : decode cX9_die 72 = .ok (.aload_n 0, 1) := by decide +kernel
theorem dX9_die_73 : decode cX9_die 73 = .ok (.getfield 10, 3) := by decide +kernel
theorem dX9_die_76 : decode cX9_die 76 = .ok (.iload_n 1, 1) := by decide +kernel
theorem dX9_die_77 : decode cX9_die 77 = .ok (.invokevirtual 176, 3) := by decide +kernel
theorem dX9_die_80 : decode cX9_die 80 = .ok (.ireturn, 1) := by decide +kernel
theorem dX9_replace_0 : decode cX9_replace 0 = .ok (.aload_n 0, 1) := by decide +kernel
theorem dX9_replace_1 : decode cX9_replace 1 = .ok (.iload_n 1, 1) := by decide +kernel
theorem dX9_replace_2 : decode cX9_replace 2 = .ok (.invokevirtual 132, 3) := by decide +kernel
theorem dX9_replace_5 : decode cX9_replace 5 = .ok (.aload_n 0, 1) := by decide +kernel
theorem dX9_replace_6 : decode cX9_replace 6 = .ok (.iload_n 2, 1) := by decide +kernel
theorem dX9_replace_7 : decode cX9_replace 7 = .ok (.iload_n 3, 1) := by decide +kernel
theorem dX9_replace_8 : decode cX9_replace 8 = .ok (.iload 4, 2) := by decide +kernel
theorem dX9_replace_10 : decode cX9_replace 10 = .ok (.iload 5, 2) := by decide +kernel
theorem dX9_replace_12 : decode cX9_replace 12 = .ok (.invokevirtual 119, 3) := by decide +kernel
theorem dX9_replace_15 : decode cX9_replace 15 = .ok (.aload_n 0, 1) := by decide +kernel
theorem dX9_replace_16 : decode cX9_replace 16 = .ok (.getfield 10, 3) := by decide +kernel
theorem dX9_replace_19 : decode cX9_replace 19 = .ok (.iload_n 1, 1) := by decide +kernel
theorem dX9_replace_20 : decode cX9_replace 20 = .ok (.invokevirtual 176, 3) := by decide +kernel
theorem dX9_replace_23 : decode cX9_replace 23 = .ok (.ifCond .ne 13, 3) := by decide +kernel
theorem dX9_replace_26 : decode cX9_replace 26 = .ok (.new 46, 3) := by decide +kernel
theorem dX9_replace_29 : decode cX9_replace 29 = .ok (.dup, 1) := by decide +kernel
theorem dX9_replace_30 : decode cX9_replace 30 = .ok (.ldc 180, 2) := by decide +kernel
theorem dX9_replace_32 : decode cX9_replace 32 = .ok (.invokespecial 50, 3) := by decide +kernel
theorem dX9_replace_35 : decode cX9_replace 35 = .ok (.athrow, 1) := by decide +kernel
theorem dX9_replace_36 : decode cX9_replace 36 = .ok (.aload_n 0, 1) := by decide +kernel
theorem dX9_replace_37 : decode cX9_replace 37 = .ok (.bipush 12, 2) := by decide +kernel
theorem dX9_replace_39 : decode cX9_replace 39 = .ok (.iload_n 1, 1) := by decide +kernel
theorem dX9_replace_40 : decode cX9_replace 40 = .ok (.iload_n 2, 1) := by decide +kernel
theorem dX9_replace_41 : decode cX9_replace 41 = .ok (.iload_n 3, 1) := by decide +kernel
theorem dX9_replace_42 : decode cX9_replace 42 = .ok (.iload 4, 2) := by decide +kernel
theorem dX9_replace_44 : decode cX9_replace 44 = .ok (.iload 5, 2) := by decide +kernel
theorem dX9_replace_46 : decode cX9_replace 46 = .ok (.invokestatic 128, 3) := by decide +kernel
theorem dX9_replace_49 : decode cX9_replace 49 = .ok (.iconst 0, 1) := by decide +kernel
theorem dX9_replace_50 : decode cX9_replace 50 = .ok (.invokevirtual 54, 3) := by decide +kernel
theorem dX9_replace_53 : decode cX9_replace 53 = .ok (.aload_n 0, 1) := by decide +kernel
theorem dX9_replace_54 : decode cX9_replace 54 = .ok (.getfield 10, 3) := by decide +kernel
theorem dX9_replace_57 : decode cX9_replace 57 = .ok (.getfield 145, 3) := by decide +kernel
theorem dX9_replace_60 : decode cX9_replace 60 = .ok (.iload_n 1, 1) := by decide +kernel
theorem dX9_replace_61 : decode cX9_replace 61 = .ok (.aaload, 1) := by decide +kernel
theorem dX9_replace_62 : decode cX9_replace 62 = .ok (.getfield 182, 3) := by decide +kernel
theorem dX9_replace_65 : decode cX9_replace 65 = .ok (.ireturn, 1) := by decide +kernel
theorem dX9_isReplaceable_0 : decode cX9_isReplaceable 0 = .ok (.aload_n 0, 1) := by decide +kernel
theorem dX9_isReplaceable_1 : decode cX9_isReplaceable 1 = .ok (.iload_n 1, 1) := by decide +kernel
theorem dX9_isReplaceable_2 : decode cX9_isReplaceable 2 = .ok (.invokevirtual 132, 3) := by decide +kernel
theorem dX9_isReplaceable_5 : decode cX9_isReplaceable 5 = .ok (.aload_n 0, 1) := by decide +kernel
theorem dX9_isReplaceable_6 : decode cX9_isReplaceable 6 = .ok (.getfield 10, 3) := by decide +kernel
theorem dX9_isReplaceable_9 : decode cX9_isReplaceable 9 = .ok (.iload_n 1, 1) := by decide +kernel
theorem dX9_isReplaceable_10 : decode cX9_isReplaceable 10 = .ok (.invokevirtual 176, 3) := by decide +kernel
theorem dX9_isReplaceable_13 : decode cX9_isReplaceable 13 = .ok (.ireturn, 1) := by decide +kernel
theorem dX9_surname_0 : decode cX9_surname 0 = .ok (.aload_n 0, 1) := by decide +kernel
theorem dX9_surname_1 : decode cX9_surname 1 = .ok (.iload_n 1, 1) := by decide +kernel
theorem dX9_surname_2 : decode cX9_surname 2 = .ok (.invokevirtual 132, 3) := by decide +kernel
theorem dX9_surname_5 : decode cX9_surname 5 = .ok (.iload_n 2, 1) := by decide +kernel
theorem dX9_surname_6 : decode cX9_surname 6 = .ok (.ifCond .lt 8, 3) := by decide +kernel
theorem dX9_surname_9 : decode cX9_surname 9 = .ok (.iload_n 2, 1) := by decide +kernel
theorem dX9_surname_10 : decode cX9_surname 10 = .ok (.iconst 4, 1) := by decide +kernel
theorem dX9_surname_11 : decode cX9_surname 11 = .ok (.if_icmp .lt 13, 3) := by decide +kernel
theorem dX9_surname_14 : decode cX9_surname 14 = .ok (.new 185, 3) := by decide +kernel
theorem dX9_surname_17 : decode cX9_surname 17 = .ok (.dup, 1) := by decide +kernel
theorem dX9_surname_18 : decode cX9_surname 18 = .ok (.ldc 187, 2) := by decide +kernel
theorem dX9_surname_20 : decode cX9_surname 20 = .ok (.invokespecial 189, 3) := by decide +kernel
theorem dX9_surname_23 : decode cX9_surname 23 = .ok (.athrow, 1) := by decide +kernel
theorem dX9_surname_24 : decode cX9_surname 24 = .ok (.aload_n 0, 1) := by decide +kernel
theorem dX9_surname_25 : decode cX9_surname 25 = .ok (.getfield 10, 3) := by decide +kernel
theorem dX9_surname_28 : decode cX9_surname 28 = .ok (.getfield 145, 3) := by decide +kernel
theorem dX9_surname_31 : decode cX9_surname 31 = .ok (.iload_n 1, 1) := by decide +kernel
theorem dX9_surname_32 : decode cX9_surname 32 = .ok (.aaload, 1) := by decide +kernel
theorem dX9_surname_33 : decode cX9_surname 33 = .ok (.getfield 190, 3) := by decide +kernel
theorem dX9_surname_36 : decode cX9_surname 36 = .ok (.iload_n 2, 1) := by decide +kernel
theorem dX9_surname_37 : decode cX9_surname 37 = .ok (.invokestatic 193, 3) := by decide +kernel
theorem dX9_surname_40 : decode cX9_surname 40 = .ok (.ireturn, 1) := by decide +kernel
theorem dX9_papers_0 : decode cX9_papers 0 = .ok (.aload_n 0, 1) := by decide +kernel
theorem dX9_papers_1 : decode cX9_papers 1 = .ok (.getfield 10, 3) := by decide +kernel
theorem dX9_papers_4 : decode cX9_papers 4 = .ok (.getfield 43, 3) := by decide +kernel
theorem dX9_papers_7 : decode cX9_papers 7 = .ok (.ireturn, 1) := by decide +kernel
theorem dX9_counted_0 : decode cX9_counted 0 = .ok (.aload_n 0, 1) := by decide +kernel
theorem dX9_counted_1 : decode cX9_counted 1 = .ok (.iload_n 1, 1) := by decide +kernel
theorem dX9_counted_2 : decode cX9_counted 2 = .ok (.invokevirtual 132, 3) := by decide +kernel
theorem dX9_counted_5 : decode cX9_counted 5 = .ok (.aload_n 0, 1) := by decide +kernel
theorem dX9_counted_6 : decode cX9_counted 6 = .ok (.getfield 10, 3) := by decide +kernel
theorem dX9_counted_9 : decode cX9_counted 9 = .ok (.getfield 145, 3) := by decide +kernel
theorem dX9_counted_12 : decode cX9_counted 12 = .ok (.iload_n 1, 1) := by decide +kernel
theorem dX9_counted_13 : decode cX9_counted 13 = .ok (.aaload, 1) := by decide +kernel
theorem dX9_counted_14 : decode cX9_counted 14 = .ok (.getfield 197, 3) := by decide +kernel
theorem dX9_counted_17 : decode cX9_counted 17 = .ok (.ireturn, 1) := by decide +kernel
theorem dX9_signatureResult_0 : decode cX9_signatureResult 0 = .ok (.iload_n 1, 1) := by decide +kernel
theorem dX9_signatureResult_1 : decode cX9_signatureResult 1 = .ok (.ifCond .lt 14, 3) := by decide +kernel
theorem dX9_signatureResult_4 : decode cX9_signatureResult 4 = .ok (.iload_n 1, 1) := by decide +kernel
theorem dX9_signatureResult_5 : decode cX9_signatureResult 5 = .ok (.aload_n 0, 1) := by decide +kernel
theorem dX9_signatureResult_6 : decode cX9_signatureResult 6 = .ok (.getfield 10, 3) := by decide +kernel
theorem dX9_signatureResult_9 : decode cX9_signatureResult 9 = .ok (.getfield 138, 3) := by decide +kernel
theorem dX9_signatureResult_12 : decode cX9_signatureResult 12 = .ok (.if_icmp .lt 13, 3) := by decide +kernel
theorem dX9_signatureResult_15 : decode cX9_signatureResult 15 = .ok (.new 185, 3) := by decide +kernel
theorem dX9_signatureResult_18 : decode cX9_signatureResult 18 = .ok (.dup, 1) := by decide +kernel
theorem dX9_signatureResult_19 : decode cX9_signatureResult 19 = .ok (.ldc 200, 2) := by decide +kernel
theorem dX9_signatureResult_21 : decode cX9_signatureResult 21 = .ok (.invokespecial 189, 3) := by decide +kernel
theorem dX9_signatureResult_24 : decode cX9_signatureResult 24 = .ok (.athrow, 1) := by decide +kernel
theorem dX9_signatureResult_25 : decode cX9_signatureResult 25 = .ok (.aload_n 0, 1) := by decide +kernel
theorem dX9_signatureResult_26 : decode cX9_signatureResult 26 = .ok (.getfield 10, 3) := by decide +kernel
theorem dX9_signatureResult_29 : decode cX9_signatureResult 29 = .ok (.getfield 202, 3) := by decide +kernel
theorem dX9_signatureResult_32 : decode cX9_signatureResult 32 = .ok (.iload_n 1, 1) := by decide +kernel
theorem dX9_signatureResult_33 : decode cX9_signatureResult 33 = .ok (.aaload, 1) := by decide +kernel
theorem dX9_signatureResult_34 : decode cX9_signatureResult 34 = .ok (.getfield 206, 3) := by decide +kernel
theorem dX9_signatureResult_37 : decode cX9_signatureResult 37 = .ok (.ireturn, 1) := by decide +kernel
theorem dX9_wouldCount_0 : decode cX9_wouldCount 0 = .ok (.aload_n 0, 1) := by decide +kernel
theorem dX9_wouldCount_1 : decode cX9_wouldCount 1 = .ok (.iload_n 1, 1) := by decide +kernel
theorem dX9_wouldCount_2 : decode cX9_wouldCount 2 = .ok (.invokevirtual 132, 3) := by decide +kernel
theorem dX9_wouldCount_5 : decode cX9_wouldCount 5 = .ok (.aload_n 0, 1) := by decide +kernel
theorem dX9_wouldCount_6 : decode cX9_wouldCount 6 = .ok (.iload_n 2, 1) := by decide +kernel
theorem dX9_wouldCount_7 : decode cX9_wouldCount 7 = .ok (.invokevirtual 88, 3) := by decide +kernel
theorem dX9_wouldCount_10 : decode cX9_wouldCount 10 = .ok (.aload_n 0, 1) := by decide +kernel
theorem dX9_wouldCount_11 : decode cX9_wouldCount 11 = .ok (.invokevirtual 123, 3) := by decide +kernel
theorem dX9_wouldCount_14 : decode cX9_wouldCount 14 = .ok (.aload_n 0, 1) := by decide +kernel
theorem dX9_wouldCount_15 : decode cX9_wouldCount 15 = .ok (.iload_n 1, 1) := by decide +kernel
theorem dX9_wouldCount_16 : decode cX9_wouldCount 16 = .ok (.invokevirtual 135, 3) := by decide +kernel
theorem dX9_wouldCount_19 : decode cX9_wouldCount 19 = .ok (.aload_n 0, 1) := by decide +kernel
theorem dX9_wouldCount_20 : decode cX9_wouldCount 20 = .ok (.getfield 10, 3) := by decide +kernel
theorem dX9_wouldCount_23 : decode cX9_wouldCount 23 = .ok (.iload_n 1, 1) := by decide +kernel
theorem dX9_wouldCount_24 : decode cX9_wouldCount 24 = .ok (.iload_n 2, 1) := by decide +kernel
theorem dX9_wouldCount_25 : decode cX9_wouldCount 25 = .ok (.invokevirtual 211, 3) := by decide +kernel
theorem dX9_wouldCount_28 : decode cX9_wouldCount 28 = .ok (.ireturn, 1) := by decide +kernel
theorem dX9_paperOf_0 : decode cX9_paperOf 0 = .ok (.aload_n 0, 1) := by decide +kernel
theorem dX9_paperOf_1 : decode cX9_paperOf 1 = .ok (.iload_n 1, 1) := by decide +kernel
theorem dX9_paperOf_2 : decode cX9_paperOf 2 = .ok (.invokevirtual 88, 3) := by decide +kernel
theorem dX9_paperOf_5 : decode cX9_paperOf 5 = .ok (.aload_n 0, 1) := by decide +kernel
theorem dX9_paperOf_6 : decode cX9_paperOf 6 = .ok (.getfield 10, 3) := by decide +kernel
theorem dX9_paperOf_9 : decode cX9_paperOf 9 = .ok (.iload_n 1, 1) := by decide +kernel
theorem dX9_paperOf_10 : decode cX9_paperOf 10 = .ok (.invokevirtual 215, 3) := by decide +kernel
theorem dX9_paperOf_13 : decode cX9_paperOf 13 = .ok (.istore_n 2, 1) := by decide +kernel
theorem dX9_paperOf_14 : decode cX9_paperOf 14 = .ok (.iload_n 2, 1) := by decide +kernel
theorem dX9_paperOf_15 : decode cX9_paperOf 15 = .ok (.iconst (-1), 1) := by decide +kernel
theorem dX9_paperOf_16 : decode cX9_paperOf 16 = .ok (.if_icmp .ne 13, 3) := by decide +kernel
theorem dX9_paperOf_19 : decode cX9_paperOf 19 = .ok (.new 218, 3) := by decide +kernel
theorem dX9_paperOf_22 : decode cX9_paperOf 22 = .ok (.dup, 1) := by decide +kernel
theorem dX9_paperOf_23 : decode cX9_paperOf 23 = .ok (.ldc 220, 2) := by decide +kernel
theorem dX9_paperOf_25 : decode cX9_paperOf 25 = .ok (.invokespecial 222, 3) := by decide +kernel
theorem dX9_paperOf_28 : decode cX9_paperOf 28 = .ok (.athrow, 1) := by decide +kernel
theorem dX9_paperOf_29 : decode cX9_paperOf 29 = .ok (.iload_n 2, 1) := by decide +kernel
theorem dX9_paperOf_30 : decode cX9_paperOf 30 = .ok (.ireturn, 1) := by decide +kernel
theorem dX9_gain_0 : decode cX9_gain 0 = .ok (.aload_n 0, 1) := by decide +kernel
theorem dX9_gain_1 : decode cX9_gain 1 = .ok (.iload_n 1, 1) := by decide +kernel
theorem dX9_gain_2 : decode cX9_gain 2 = .ok (.invokevirtual 132, 3) := by decide +kernel
theorem dX9_gain_5 : decode cX9_gain 5 = .ok (.aload_n 0, 1) := by decide +kernel
theorem dX9_gain_6 : decode cX9_gain 6 = .ok (.iload_n 2, 1) := by decide +kernel
theorem dX9_gain_7 : decode cX9_gain 7 = .ok (.invokevirtual 132, 3) := by decide +kernel
theorem dX9_gain_10 : decode cX9_gain 10 = .ok (.iload_n 1, 1) := by decide +kernel
theorem dX9_gain_11 : decode cX9_gain 11 = .ok (.iload_n 2, 1) := by decide +kernel
theorem dX9_gain_12 : decode cX9_gain 12 = .ok (.if_icmp .ne 13, 3) := by decide +kernel
theorem dX9_gain_15 : decode cX9_gain 15 = .ok (.new 26, 3) := by decide +kernel
theorem dX9_gain_18 : decode cX9_gain 18 = .ok (.dup, 1) := by decide +kernel
theorem dX9_gain_19 : decode cX9_gain 19 = .ok (.ldc 223, 2) := by decide +kernel
theorem dX9_gain_21 : decode cX9_gain 21 = .ok (.invokespecial 30, 3) := by decide +kernel
theorem dX9_gain_24 : decode cX9_gain 24 = .ok (.athrow, 1) := by decide +kernel
theorem dX9_gain_25 : decode cX9_gain 25 = .ok (.aload_n 0, 1) := by decide +kernel
theorem dX9_gain_26 : decode cX9_gain 26 = .ok (.invokevirtual 123, 3) := by decide +kernel
theorem dX9_gain_29 : decode cX9_gain 29 = .ok (.aload_n 0, 1) := by decide +kernel
theorem dX9_gain_30 : decode cX9_gain 30 = .ok (.iload_n 1, 1) := by decide +kernel
theorem dX9_gain_31 : decode cX9_gain 31 = .ok (.invokevirtual 135, 3) := by decide +kernel
theorem dX9_gain_34 : decode cX9_gain 34 = .ok (.aload_n 0, 1) := by decide +kernel
theorem dX9_gain_35 : decode cX9_gain 35 = .ok (.getfield 10, 3) := by decide +kernel
theorem dX9_gain_38 : decode cX9_gain 38 = .ok (.iload_n 1, 1) := by decide +kernel
theorem dX9_gain_39 : decode cX9_gain 39 = .ok (.iload_n 2, 1) := by decide +kernel
theorem dX9_gain_40 : decode cX9_gain 40 = .ok (.invokevirtual 225, 3) := by decide +kernel
theorem dX9_gain_43 : decode cX9_gain 43 = .ok (.ireturn, 1) := by decide +kernel
theorem dX9_fewestWithdrawals_0 : decode cX9_fewestWithdrawals 0 = .ok (.aload_n 0, 1) := by decide +kernel
theorem dX9_fewestWithdrawals_1 : decode cX9_fewestWithdrawals 1 = .ok (.iload_n 1, 1) := by decide +kernel
theorem dX9_fewestWithdrawals_2 : decode cX9_fewestWithdrawals 2 = .ok (.invokevirtual 132, 3) := by decide +kernel
theorem dX9_fewestWithdrawals_5 : decode cX9_fewestWithdrawals 5 = .ok (.aload_n 0, 1) := by decide +kernel
theorem dX9_fewestWithdrawals_6 : decode cX9_fewestWithdrawals 6 = .ok (.invokevirtual 123, 3) := by decide +kernel
theorem dX9_fewestWithdrawals_9 : decode cX9_fewestWithdrawals 9 = .ok (.aload_n 0, 1) := by decide +kernel
theorem dX9_fewestWithdrawals_10 : decode cX9_fewestWithdrawals 10 = .ok (.iload_n 1, 1) := by decide +kernel
theorem dX9_fewestWithdrawals_11 : decode cX9_fewestWithdrawals 11 = .ok (.invokevirtual 135, 3) := by decide +kernel
theorem dX9_fewestWithdrawals_14 : decode cX9_fewestWithdrawals 14 = .ok (.aload_n 0, 1) := by decide +kernel
theorem dX9_fewestWithdrawals_15 : decode cX9_fewestWithdrawals 15 = .ok (.getfield 10, 3) := by decide +kernel
theorem dX9_fewestWithdrawals_18 : decode cX9_fewestWithdrawals 18 = .ok (.iload_n 1, 1) := by decide +kernel
theorem dX9_fewestWithdrawals_19 : decode cX9_fewestWithdrawals 19 = .ok (.invokevirtual 229, 3) := by decide +kernel
theorem dX9_fewestWithdrawals_22 : decode cX9_fewestWithdrawals 22 = .ok (.istore_n 2, 1) := by decide +kernel
theorem dX9_fewestWithdrawals_23 : decode cX9_fewestWithdrawals 23 = .ok (.iload_n 2, 1) := by decide +kernel
theorem dX9_fewestWithdrawals_24 : decode cX9_fewestWithdrawals 24 = .ok (.iconst (-1), 1) := by decide +kernel
theorem dX9_fewestWithdrawals_25 : decode cX9_fewestWithdrawals 25 = .ok (.if_icmp .ne 13, 3) := by decide +kernel
theorem dX9_fewestWithdrawals_28 : decode cX9_fewestWithdrawals 28 = .ok (.new 218, 3) := by decide +kernel
theorem dX9_fewestWithdrawals_31 : decode cX9_fewestWithdrawals 31 = .ok (.dup, 1) := by decide +kernel
theorem dX9_fewestWithdrawals_32 : decode cX9_fewestWithdrawals 32 = .ok (.ldc 232, 2) := by decide +kernel
theorem dX9_fewestWithdrawals_34 : decode cX9_fewestWithdrawals 34 = .ok (.invokespecial 222, 3) := by decide +kernel
theorem dX9_fewestWithdrawals_37 : decode cX9_fewestWithdrawals 37 = .ok (.athrow, 1) := by decide +kernel
theorem dX9_fewestWithdrawals_38 : decode cX9_fewestWithdrawals 38 = .ok (.iload_n 2, 1) := by decide +kernel
theorem dX9_fewestWithdrawals_39 : decode cX9_fewestWithdrawals 39 = .ok (.ireturn, 1) := by decide +kernel
theorem dX9_signatures_0 : decode cX9_signatures 0 = .ok (.aload_n 0, 1) := by decide +kernel
theorem dX9_signatures_1 : decode cX9_signatures 1 = .ok (.getfield 10, 3) := by decide +kernel
theorem dX9_signatures_4 : decode cX9_signatures 4 = .ok (.getfield 138, 3) := by decide +kernel
theorem dX9_signatures_7 : decode cX9_signatures 7 = .ok (.ireturn, 1) := by decide +kernel
theorem dX9_reason_0 : decode cX9_reason 0 = .ok (.aload_n 0, 1) := by decide +kernel
theorem dX9_reason_1 : decode cX9_reason 1 = .ok (.iload_n 1, 1) := by decide +kernel
theorem dX9_reason_2 : decode cX9_reason 2 = .ok (.invokevirtual 132, 3) := by decide +kernel
theorem dX9_reason_5 : decode cX9_reason 5 = .ok (.aload_n 0, 1) := by decide +kernel
theorem dX9_reason_6 : decode cX9_reason 6 = .ok (.getfield 10, 3) := by decide +kernel
theorem dX9_reason_9 : decode cX9_reason 9 = .ok (.iload_n 1, 1) := by decide +kernel
theorem dX9_reason_10 : decode cX9_reason 10 = .ok (.invokevirtual 234, 3) := by decide +kernel
theorem dX9_reason_13 : decode cX9_reason 13 = .ok (.ireturn, 1) := by decide +kernel
theorem dX9_reasonByReplay_0 : decode cX9_reasonByReplay 0 = .ok (.aload_n 0, 1) := by decide +kernel
theorem dX9_reasonByReplay_1 : decode cX9_reasonByReplay 1 = .ok (.iload_n 1, 1) := by decide +kernel
theorem dX9_reasonByReplay_2 : decode cX9_reasonByReplay 2 = .ok (.invokevirtual 132, 3) := by decide +kernel
theorem dX9_reasonByReplay_5 : decode cX9_reasonByReplay 5 = .ok (.aload_n 0, 1) := by decide +kernel
theorem dX9_reasonByReplay_6 : decode cX9_reasonByReplay 6 = .ok (.getfield 16, 3) := by decide +kernel
theorem dX9_reasonByReplay_9 : decode cX9_reasonByReplay 9 = .ok (.invokevirtual 237, 3) := by decide +kernel
theorem dX9_reasonByReplay_12 : decode cX9_reasonByReplay 12 = .ok (.iconst 0, 1) := by decide +kernel
theorem dX9_reasonByReplay_13 : decode cX9_reasonByReplay 13 = .ok (.istore_n 2, 1) := by decide +kernel
theorem dX9_reasonByReplay_14 : decode cX9_reasonByReplay 14 = .ok (.iload_n 2, 1) := by decide +kernel
theorem dX9_reasonByReplay_15 : decode cX9_reasonByReplay 15 = .ok (.aload_n 0, 1) := by decide +kernel
theorem dX9_reasonByReplay_16 : decode cX9_reasonByReplay 16 = .ok (.getfield 22, 3) := by decide +kernel
theorem dX9_reasonByReplay_19 : decode cX9_reasonByReplay 19 = .ok (.getfield 240, 3) := by decide +kernel
theorem dX9_reasonByReplay_22 : decode cX9_reasonByReplay 22 = .ok (.if_icmp .ge 52, 3) := by decide +kernel
theorem dX9_reasonByReplay_25 : decode cX9_reasonByReplay 25 = .ok (.aload_n 0, 1) := by decide +kernel
theorem dX9_reasonByReplay_26 : decode cX9_reasonByReplay 26 = .ok (.getfield 16, 3) := by decide +kernel
theorem dX9_reasonByReplay_29 : decode cX9_reasonByReplay 29 = .ok (.aload_n 0, 1) := by decide +kernel
theorem dX9_reasonByReplay_30 : decode cX9_reasonByReplay 30 = .ok (.getfield 22, 3) := by decide +kernel
theorem dX9_reasonByReplay_33 : decode cX9_reasonByReplay 33 = .ok (.getfield 243, 3) := by decide +kernel
theorem dX9_reasonByReplay_36 : decode cX9_reasonByReplay 36 = .ok (.iload_n 2, 1) := by decide +kernel
theorem dX9_reasonByReplay_37 : decode cX9_reasonByReplay 37 = .ok (.iaload, 1) := by decide +kernel
theorem dX9_reasonByReplay_38 : decode cX9_reasonByReplay 38 = .ok (.aload_n 0, 1) := by decide +kernel
theorem dX9_reasonByReplay_39 : decode cX9_reasonByReplay 39 = .ok (.getfield 22, 3) := by decide +kernel
theorem dX9_reasonByReplay_42 : decode cX9_reasonByReplay 42 = .ok (.getfield 247, 3) := by decide +kernel
theorem dX9_reasonByReplay_45 : decode cX9_reasonByReplay 45 = .ok (.iload_n 2, 1) := by decide +kernel
theorem dX9_reasonByReplay_46 : decode cX9_reasonByReplay 46 = .ok (.iaload, 1) := by decide +kernel
theorem dX9_reasonByReplay_47 : decode cX9_reasonByReplay 47 = .ok (.aload_n 0, 1) := by decide +kernel
theorem dX9_reasonByReplay_48 : decode cX9_reasonByReplay 48 = .ok (.getfield 22, 3) := by decide +kernel
theorem dX9_reasonByReplay_51 : decode cX9_reasonByReplay 51 = .ok (.getfield 250, 3) := by decide +kernel
theorem dX9_reasonByReplay_54 : decode cX9_reasonByReplay 54 = .ok (.iload_n 2, 1) := by decide +kernel
theorem dX9_reasonByReplay_55 : decode cX9_reasonByReplay 55 = .ok (.iaload, 1) := by decide +kernel
theorem dX9_reasonByReplay_56 : decode cX9_reasonByReplay 56 = .ok (.aload_n 0, 1) := by decide +kernel
theorem dX9_reasonByReplay_57 : decode cX9_reasonByReplay 57 = .ok (.getfield 22, 3) := by decide +kernel
theorem dX9_reasonByReplay_60 : decode cX9_reasonByReplay 60 = .ok (.getfield 253, 3) := by decide +kernel
theorem dX9_reasonByReplay_63 : decode cX9_reasonByReplay 63 = .ok (.iload_n 2, 1) := by decide +kernel
theorem dX9_reasonByReplay_64 : decode cX9_reasonByReplay 64 = .ok (.iaload, 1) := by decide +kernel
theorem dX9_reasonByReplay_65 : decode cX9_reasonByReplay 65 = .ok (.invokevirtual 256, 3) := by decide +kernel
theorem dX9_reasonByReplay_68 : decode cX9_reasonByReplay 68 = .ok (.iinc 2 1, 3) := by decide +kernel
theorem dX9_reasonByReplay_71 : decode cX9_reasonByReplay 71 = .ok (.goto (-57), 3) := by decide +kernel
theorem dX9_reasonByReplay_74 : decode cX9_reasonByReplay 74 = .ok (.aload_n 0, 1) := by decide +kernel
theorem dX9_reasonByReplay_75 : decode cX9_reasonByReplay 75 = .ok (.getfield 16, 3) := by decide +kernel
theorem dX9_reasonByReplay_78 : decode cX9_reasonByReplay 78 = .ok (.invokevirtual 257, 3) := by decide +kernel
theorem dX9_reasonByReplay_81 : decode cX9_reasonByReplay 81 = .ok (.aload_n 0, 1) := by decide +kernel
theorem dX9_reasonByReplay_82 : decode cX9_reasonByReplay 82 = .ok (.getfield 16, 3) := by decide +kernel
theorem dX9_reasonByReplay_85 : decode cX9_reasonByReplay 85 = .ok (.iload_n 1, 1) := by decide +kernel
theorem dX9_reasonByReplay_86 : decode cX9_reasonByReplay 86 = .ok (.invokevirtual 234, 3) := by decide +kernel
theorem dX9_reasonByReplay_89 : decode cX9_reasonByReplay 89 = .ok (.ireturn, 1) := by decide +kernel
theorem dX9_ballotSize_0 : decode cX9_ballotSize 0 = .ok (.aload_n 0, 1) := by decide +kernel
theorem dX9_ballotSize_1 : decode cX9_ballotSize 1 = .ok (.iload_n 1, 1) := by decide +kernel
theorem dX9_ballotSize_2 : decode cX9_ballotSize 2 = .ok (.invokevirtual 79, 3) := by decide +kernel
theorem dX9_ballotSize_5 : decode cX9_ballotSize 5 = .ok (.aload_n 0, 1) := by decide +kernel
theorem dX9_ballotSize_6 : decode cX9_ballotSize 6 = .ok (.getfield 10, 3) := by decide +kernel
theorem dX9_ballotSize_9 : decode cX9_ballotSize 9 = .ok (.iload_n 1, 1) := by decide +kernel
theorem dX9_ballotSize_10 : decode cX9_ballotSize 10 = .ok (.invokevirtual 260, 3) := by decide +kernel
theorem dX9_ballotSize_13 : decode cX9_ballotSize 13 = .ok (.ireturn, 1) := by decide +kernel
theorem dX9_draw_0 : decode cX9_draw 0 = .ok (.aload_n 0, 1) := by decide +kernel
theorem dX9_draw_1 : decode cX9_draw 1 = .ok (.getfield 10, 3) := by decide +kernel
theorem dX9_draw_4 : decode cX9_draw 4 = .ok (.getfield 33, 3) := by decide +kernel
theorem dX9_draw_7 : decode cX9_draw 7 = .ok (.invokevirtual 62, 3) := by decide +kernel
theorem dX9_draw_10 : decode cX9_draw 10 = .ok (.ifCond .eq 14, 3) := by decide +kernel
theorem dX9_draw_13 : decode cX9_draw 13 = .ok (.new 46, 3) := by decide +kernel
theorem dX9_draw_16 : decode cX9_draw 16 = .ok (.dup, 1) := by decide +kernel
theorem dX9_draw_17 : decode cX9_draw 17 = .ok (.ldc_w 263, 3) := by decide +kernel
theorem dX9_draw_20 : decode cX9_draw 20 = .ok (.invokespecial 50, 3) := by decide +kernel
theorem dX9_draw_23 : decode cX9_draw 23 = .ok (.athrow, 1) := by decide +kernel
theorem dX9_draw_24 : decode cX9_draw 24 = .ok (.aload_n 0, 1) := by decide +kernel
theorem dX9_draw_25 : decode cX9_draw 25 = .ok (.getfield 10, 3) := by decide +kernel
theorem dX9_draw_28 : decode cX9_draw 28 = .ok (.getfield 265, 3) := by decide +kernel
theorem dX9_draw_31 : decode cX9_draw 31 = .ok (.getfield 269, 3) := by decide +kernel
theorem dX9_draw_34 : decode cX9_draw 34 = .ok (.ifCond .eq 14, 3) := by decide +kernel
theorem dX9_draw_37 : decode cX9_draw 37 = .ok (.new 46, 3) := by decide +kernel
theorem dX9_draw_40 : decode cX9_draw 40 = .ok (.dup, 1) := by decide +kernel
theorem dX9_draw_41 : decode cX9_draw 41 = .ok (.ldc_w 274, 3) := by decide +kernel
theorem dX9_draw_44 : decode cX9_draw 44 = .ok (.invokespecial 50, 3) := by decide +kernel
theorem dX9_draw_47 : decode cX9_draw 47 = .ok (.athrow, 1) := by decide +kernel
theorem dX9_draw_48 : decode cX9_draw 48 = .ok (.aload_n 0, 1) := by decide +kernel
theorem dX9_draw_49 : decode cX9_draw 49 = .ok (.bipush 13, 2) := by decide +kernel
theorem dX9_draw_51 : decode cX9_draw 51 = .ok (.iload_n 1, 1) := by decide +kernel
theorem dX9_draw_52 : decode cX9_draw 52 = .ok (.iconst 0, 1) := by decide +kernel
theorem dX9_draw_53 : decode cX9_draw 53 = .ok (.iconst 0, 1) := by decide +kernel
theorem dX9_draw_54 : decode cX9_draw 54 = .ok (.invokevirtual 54, 3) := by decide +kernel
theorem dX9_draw_57 : decode cX9_draw 57 = .ok (.aload_n 0, 1) := by decide +kernel
theorem dX9_draw_58 : decode cX9_draw 58 = .ok (.getfield 10, 3) := by decide +kernel
theorem dX9_draw_61 : decode cX9_draw 61 = .ok (.getfield 265, 3) := by decide +kernel
theorem dX9_draw_64 : decode cX9_draw 64 = .ok (.getfield 276, 3) := by decide +kernel
theorem dX9_draw_67 : decode cX9_draw 67 = .ok (.iconst 0, 1) := by decide +kernel
theorem dX9_draw_68 : decode cX9_draw 68 = .ok (.caload, 1) := by decide +kernel
theorem dX9_draw_69 : decode cX9_draw 69 = .ok (.ireturn, 1) := by decide +kernel
theorem dX9_letter_0 : decode cX9_letter 0 = .ok (.iload_n 1, 1) := by decide +kernel
theorem dX9_letter_1 : decode cX9_letter 1 = .ok (.ifCond .lt 9, 3) := by decide +kernel
theorem dX9_letter_4 : decode cX9_letter 4 = .ok (.iload_n 1, 1) := by decide +kernel
theorem dX9_letter_5 : decode cX9_letter 5 = .ok (.bipush 26, 2) := by decide +kernel
theorem dX9_letter_7 : decode cX9_letter 7 = .ok (.if_icmp .lt 13, 3) := by decide +kernel
theorem dX9_letter_10 : decode cX9_letter 10 = .ok (.new 185, 3) := by decide +kernel
theorem dX9_letter_13 : decode cX9_letter 13 = .ok (.dup, 1) := by decide +kernel
theorem dX9_letter_14 : decode cX9_letter 14 = .ok (.ldc 187, 2) := by decide +kernel
theorem dX9_letter_16 : decode cX9_letter 16 = .ok (.invokespecial 189, 3) := by decide +kernel
theorem dX9_letter_19 : decode cX9_letter 19 = .ok (.athrow, 1) := by decide +kernel
theorem dX9_letter_20 : decode cX9_letter 20 = .ok (.aload_n 0, 1) := by decide +kernel
theorem dX9_letter_21 : decode cX9_letter 21 = .ok (.invokevirtual 280, 3) := by decide +kernel
theorem dX9_letter_24 : decode cX9_letter 24 = .ok (.aload_n 0, 1) := by decide +kernel
theorem dX9_letter_25 : decode cX9_letter 25 = .ok (.getfield 10, 3) := by decide +kernel
theorem dX9_letter_28 : decode cX9_letter 28 = .ok (.getfield 265, 3) := by decide +kernel
theorem dX9_letter_31 : decode cX9_letter 31 = .ok (.getfield 276, 3) := by decide +kernel
theorem dX9_letter_34 : decode cX9_letter 34 = .ok (.iload_n 1, 1) := by decide +kernel
theorem dX9_letter_35 : decode cX9_letter 35 = .ok (.caload, 1) := by decide +kernel
theorem dX9_letter_36 : decode cX9_letter 36 = .ok (.ireturn, 1) := by decide +kernel
theorem dX9_placeOnBallot_0 : decode cX9_placeOnBallot 0 = .ok (.aload_n 0, 1) := by decide +kernel
theorem dX9_placeOnBallot_1 : decode cX9_placeOnBallot 1 = .ok (.iload_n 1, 1) := by decide +kernel
theorem dX9_placeOnBallot_2 : decode cX9_placeOnBallot 2 = .ok (.invokevirtual 132, 3) := by decide +kernel
theorem dX9_placeOnBallot_5 : decode cX9_placeOnBallot 5 = .ok (.aload_n 0, 1) := by decide +kernel
theorem dX9_placeOnBallot_6 : decode cX9_placeOnBallot 6 = .ok (.iload_n 2, 1) := by decide +kernel
theorem dX9_placeOnBallot_7 : decode cX9_placeOnBallot 7 = .ok (.invokevirtual 283, 3) := by decide +kernel
theorem dX9_placeOnBallot_10 : decode cX9_placeOnBallot 10 = .ok (.aload_n 0, 1) := by decide +kernel
theorem dX9_placeOnBallot_11 : decode cX9_placeOnBallot 11 = .ok (.invokevirtual 280, 3) := by decide +kernel
theorem dX9_placeOnBallot_14 : decode cX9_placeOnBallot 14 = .ok (.aload_n 0, 1) := by decide +kernel
theorem dX9_placeOnBallot_15 : decode cX9_placeOnBallot 15 = .ok (.iload_n 1, 1) := by decide +kernel
theorem dX9_placeOnBallot_16 : decode cX9_placeOnBallot 16 = .ok (.invokevirtual 294, 3) := by decide +kernel
theorem dX9_placeOnBallot_19 : decode cX9_placeOnBallot 19 = .ok (.aload_n 0, 1) := by decide +kernel
theorem dX9_placeOnBallot_20 : decode cX9_placeOnBallot 20 = .ok (.getfield 10, 3) := by decide +kernel
theorem dX9_placeOnBallot_23 : decode cX9_placeOnBallot 23 = .ok (.iload_n 1, 1) := by decide +kernel
theorem dX9_placeOnBallot_24 : decode cX9_placeOnBallot 24 = .ok (.invokevirtual 297, 3) := by decide +kernel
theorem dX9_placeOnBallot_27 : decode cX9_placeOnBallot 27 = .ok (.iload_n 2, 1) := by decide +kernel
theorem dX9_placeOnBallot_28 : decode cX9_placeOnBallot 28 = .ok (.isub, 1) := by decide +kernel
theorem dX9_placeOnBallot_29 : decode cX9_placeOnBallot 29 = .ok (.aload_n 0, 1) := by decide +kernel
theorem dX9_placeOnBallot_30 : decode cX9_placeOnBallot 30 = .ok (.getfield 10, 3) := by decide +kernel
theorem dX9_placeOnBallot_33 : decode cX9_placeOnBallot 33 = .ok (.aload_n 0, 1) := by decide +kernel
theorem dX9_placeOnBallot_34 : decode cX9_placeOnBallot 34 = .ok (.getfield 10, 3) := by decide +kernel
theorem dX9_placeOnBallot_37 : decode cX9_placeOnBallot 37 = .ok (.getfield 145, 3) := by decide +kernel
theorem dX9_placeOnBallot_40 : decode cX9_placeOnBallot 40 = .ok (.iload_n 1, 1) := by decide +kernel
theorem dX9_placeOnBallot_41 : decode cX9_placeOnBallot 41 = .ok (.aaload, 1) := by decide +kernel
theorem dX9_placeOnBallot_42 : decode cX9_placeOnBallot 42 = .ok (.getfield 300, 3) := by decide +kernel
theorem dX9_placeOnBallot_45 : decode cX9_placeOnBallot 45 = .ok (.invokevirtual 260, 3) := by decide +kernel
theorem dX9_placeOnBallot_48 : decode cX9_placeOnBallot 48 = .ok (.invokestatic 288, 3) := by decide +kernel
theorem dX9_placeOnBallot_51 : decode cX9_placeOnBallot 51 = .ok (.ireturn, 1) := by decide +kernel
theorem dX9_addVotes_0 : decode cX9_addVotes 0 = .ok (.aload_n 0, 1) := by decide +kernel
theorem dX9_addVotes_1 : decode cX9_addVotes 1 = .ok (.iload_n 1, 1) := by decide +kernel
theorem dX9_addVotes_2 : decode cX9_addVotes 2 = .ok (.invokevirtual 132, 3) := by decide +kernel
theorem dX9_addVotes_5 : decode cX9_addVotes 5 = .ok (.iload_n 2, 1) := by decide +kernel
theorem dX9_addVotes_6 : decode cX9_addVotes 6 = .ok (.iconst 1, 1) := by decide +kernel
theorem dX9_addVotes_7 : decode cX9_addVotes 7 = .ok (.if_icmp .lt 10, 3) := by decide +kernel
theorem dX9_addVotes_10 : decode cX9_addVotes 10 = .ok (.iload_n 2, 1) := by decide +kernel
theorem dX9_addVotes_11 : decode cX9_addVotes 11 = .ok (.sipush 10000, 3) := by decide +kernel
theorem dX9_addVotes_14 : decode cX9_addVotes 14 = .ok (.if_icmp .le 14, 3) := by decide +kernel
theorem dX9_addVotes_17 : decode cX9_addVotes 17 = .ok (.new 26, 3) := by decide +kernel
theorem dX9_addVotes_20 : decode cX9_addVotes 20 = .ok (.dup, 1) := by decide +kernel
theorem dX9_addVotes_21 : decode cX9_addVotes 21 = .ok (.ldc_w 301, 3) := by decide +kernel
theorem dX9_addVotes_24 : decode cX9_addVotes 24 = .ok (.invokespecial 30, 3) := by decide +kernel
theorem dX9_addVotes_27 : decode cX9_addVotes 27 = .ok (.athrow, 1) := by decide +kernel
theorem dX9_addVotes_28 : decode cX9_addVotes 28 = .ok (.aload_n 0, 1) := by decide +kernel
theorem dX9_addVotes_29 : decode cX9_addVotes 29 = .ok (.iload_n 1, 1) := by decide +kernel
theorem dX9_addVotes_30 : decode cX9_addVotes 30 = .ok (.invokevirtual 294, 3) := by decide +kernel
theorem dX9_addVotes_33 : decode cX9_addVotes 33 = .ok (.aload_n 0, 1) := by decide +kernel
theorem dX9_addVotes_34 : decode cX9_addVotes 34 = .ok (.aload_n 0, 1) := by decide +kernel
theorem dX9_addVotes_35 : decode cX9_addVotes 35 = .ok (.getfield 10, 3) := by decide +kernel
theorem dX9_addVotes_38 : decode cX9_addVotes 38 = .ok (.getfield 145, 3) := by decide +kernel
theorem dX9_addVotes_41 : decode cX9_addVotes 41 = .ok (.iload_n 1, 1) := by decide +kernel
theorem dX9_addVotes_42 : decode cX9_addVotes 42 = .ok (.aaload, 1) := by decide +kernel
theorem dX9_addVotes_43 : decode cX9_addVotes 43 = .ok (.getfield 300, 3) := by decide +kernel
theorem dX9_addVotes_46 : decode cX9_addVotes 46 = .ok (.invokevirtual 303, 3) := by decide +kernel
theorem dX9_addVotes_49 : decode cX9_addVotes 49 = .ok (.aload_n 0, 1) := by decide +kernel
theorem dX9_addVotes_50 : decode cX9_addVotes 50 = .ok (.bipush 14, 2) := by decide +kernel
theorem dX9_addVotes_52 : decode cX9_addVotes 52 = .ok (.iload_n 1, 1) := by decide +kernel
theorem dX9_addVotes_53 : decode cX9_addVotes 53 = .ok (.iload_n 2, 1) := by decide +kernel
theorem dX9_addVotes_54 : decode cX9_addVotes 54 = .ok (.iconst 0, 1) := by decide +kernel
theorem dX9_addVotes_55 : decode cX9_addVotes 55 = .ok (.invokevirtual 54, 3) := by decide +kernel
theorem dX9_addVotes_58 : decode cX9_addVotes 58 = .ok (.aload_n 0, 1) := by decide +kernel
theorem dX9_addVotes_59 : decode cX9_addVotes 59 = .ok (.getfield 10, 3) := by decide +kernel
theorem dX9_addVotes_62 : decode cX9_addVotes 62 = .ok (.getfield 145, 3) := by decide +kernel
theorem dX9_addVotes_65 : decode cX9_addVotes 65 = .ok (.iload_n 1, 1) := by decide +kernel
theorem dX9_addVotes_66 : decode cX9_addVotes 66 = .ok (.aaload, 1) := by decide +kernel
theorem dX9_addVotes_67 : decode cX9_addVotes 67 = .ok (.getfield 306, 3) := by decide +kernel
theorem dX9_addVotes_70 : decode cX9_addVotes 70 = .ok (.ireturn, 1) := by decide +kernel
theorem dX9_finish_0 : decode cX9_finish 0 = .ok (.aload_n 0, 1) := by decide +kernel
theorem dX9_finish_1 : decode cX9_finish 1 = .ok (.iload_n 1, 1) := by decide +kernel
theorem dX9_finish_2 : decode cX9_finish 2 = .ok (.invokevirtual 79, 3) := by decide +kernel
theorem dX9_finish_5 : decode cX9_finish 5 = .ok (.aload_n 0, 1) := by decide +kernel
theorem dX9_finish_6 : decode cX9_finish 6 = .ok (.iload_n 1, 1) := by decide +kernel
theorem dX9_finish_7 : decode cX9_finish 7 = .ok (.invokevirtual 303, 3) := by decide +kernel
theorem dX9_finish_10 : decode cX9_finish 10 = .ok (.aload_n 0, 1) := by decide +kernel
theorem dX9_finish_11 : decode cX9_finish 11 = .ok (.bipush 15, 2) := by decide +kernel
theorem dX9_finish_13 : decode cX9_finish 13 = .ok (.iload_n 1, 1) := by decide +kernel
theorem dX9_finish_14 : decode cX9_finish 14 = .ok (.iconst 0, 1) := by decide +kernel
theorem dX9_finish_15 : decode cX9_finish 15 = .ok (.iconst 0, 1) := by decide +kernel
theorem dX9_finish_16 : decode cX9_finish 16 = .ok (.invokevirtual 54, 3) := by decide +kernel
theorem dX9_finish_19 : decode cX9_finish 19 = .ok (.aload_n 0, 1) := by decide +kernel
theorem dX9_finish_20 : decode cX9_finish 20 = .ok (.getfield 10, 3) := by decide +kernel
theorem dX9_finish_23 : decode cX9_finish 23 = .ok (.iload_n 1, 1) := by decide +kernel
theorem dX9_finish_24 : decode cX9_finish 24 = .ok (.invokevirtual 309, 3) := by decide +kernel
theorem dX9_finish_27 : decode cX9_finish 27 = .ok (.ireturn, 1) := by decide +kernel
theorem dX9_votes_0 : decode cX9_votes 0 = .ok (.aload_n 0, 1) := by decide +kernel
theorem dX9_votes_1 : decode cX9_votes 1 = .ok (.iload_n 1, 1) := by decide +kernel
theorem dX9_votes_2 : decode cX9_votes 2 = .ok (.invokevirtual 132, 3) := by decide +kernel
theorem dX9_votes_5 : decode cX9_votes 5 = .ok (.aload_n 0, 1) := by decide +kernel
theorem dX9_votes_6 : decode cX9_votes 6 = .ok (.getfield 10, 3) := by decide +kernel
theorem dX9_votes_9 : decode cX9_votes 9 = .ok (.getfield 145, 3) := by decide +kernel
theorem dX9_votes_12 : decode cX9_votes 12 = .ok (.iload_n 1, 1) := by decide +kernel
theorem dX9_votes_13 : decode cX9_votes 13 = .ok (.aaload, 1) := by decide +kernel
theorem dX9_votes_14 : decode cX9_votes 14 = .ok (.getfield 306, 3) := by decide +kernel
theorem dX9_votes_17 : decode cX9_votes 17 = .ok (.ireturn, 1) := by decide +kernel
theorem dX9_winner_0 : decode cX9_winner 0 = .ok (.aload_n 0, 1) := by decide +kernel
theorem dX9_winner_1 : decode cX9_winner 1 = .ok (.iload_n 1, 1) := by decide +kernel
theorem dX9_winner_2 : decode cX9_winner 2 = .ok (.invokevirtual 79, 3) := by decide +kernel
theorem dX9_winner_5 : decode cX9_winner 5 = .ok (.aload_n 0, 1) := by decide +kernel
theorem dX9_winner_6 : decode cX9_winner 6 = .ok (.getfield 10, 3) := by decide +kernel
theorem dX9_winner_9 : decode cX9_winner 9 = .ok (.getfield 68, 3) := by decide +kernel
theorem dX9_winner_12 : decode cX9_winner 12 = .ok (.getfield 320, 3) := by decide +kernel
theorem dX9_winner_15 : decode cX9_winner 15 = .ok (.iload_n 1, 1) := by decide +kernel
theorem dX9_winner_16 : decode cX9_winner 16 = .ok (.aaload, 1) := by decide +kernel
theorem dX9_winner_17 : decode cX9_winner 17 = .ok (.getfield 324, 3) := by decide +kernel
theorem dX9_winner_20 : decode cX9_winner 20 = .ok (.ifCond .ne 14, 3) := by decide +kernel
theorem dX9_winner_23 : decode cX9_winner 23 = .ok (.new 46, 3) := by decide +kernel
theorem dX9_winner_26 : decode cX9_winner 26 = .ok (.dup, 1) := by decide +kernel
theorem dX9_winner_27 : decode cX9_winner 27 = .ok (.ldc_w 329, 3) := by decide +kernel
theorem dX9_winner_30 : decode cX9_winner 30 = .ok (.invokespecial 50, 3) := by decide +kernel
theorem dX9_winner_33 : decode cX9_winner 33 = .ok (.athrow, 1) := by decide +kernel
theorem dX9_winner_34 : decode cX9_winner 34 = .ok (.aload_n 0, 1) := by decide +kernel
theorem dX9_winner_35 : decode cX9_winner 35 = .ok (.getfield 10, 3) := by decide +kernel
theorem dX9_winner_38 : decode cX9_winner 38 = .ok (.iload_n 1, 1) := by decide +kernel
theorem dX9_winner_39 : decode cX9_winner 39 = .ok (.invokevirtual 331, 3) := by decide +kernel
theorem dX9_winner_42 : decode cX9_winner 42 = .ok (.istore_n 2, 1) := by decide +kernel
theorem dX9_winner_43 : decode cX9_winner 43 = .ok (.iload_n 2, 1) := by decide +kernel
theorem dX9_winner_44 : decode cX9_winner 44 = .ok (.iconst (-1), 1) := by decide +kernel
theorem dX9_winner_45 : decode cX9_winner 45 = .ok (.if_icmp .ne 14, 3) := by decide +kernel
theorem dX9_winner_48 : decode cX9_winner 48 = .ok (.new 218, 3) := by decide +kernel
theorem dX9_winner_51 : decode cX9_winner 51 = .ok (.dup, 1) := by decide +kernel
theorem dX9_winner_52 : decode cX9_winner 52 = .ok (.ldc_w 334, 3) := by decide +kernel
theorem dX9_winner_55 : decode cX9_winner 55 = .ok (.invokespecial 222, 3) := by decide +kernel
theorem dX9_winner_58 : decode cX9_winner 58 = .ok (.athrow, 1) := by decide +kernel
theorem dX9_winner_59 : decode cX9_winner 59 = .ok (.iload_n 2, 1) := by decide +kernel
theorem dX9_winner_60 : decode cX9_winner 60 = .ok (.ireturn, 1) := by decide +kernel
theorem dX9_deposit_0 : decode cX9_deposit 0 = .ok (.aload_n 0, 1) := by decide +kernel
theorem dX9_deposit_1 : decode cX9_deposit 1 = .ok (.iload_n 1, 1) := by decide +kernel
theorem dX9_deposit_2 : decode cX9_deposit 2 = .ok (.invokevirtual 132, 3) := by decide +kernel
theorem dX9_deposit_5 : decode cX9_deposit 5 = .ok (.aload_n 0, 1) := by decide +kernel
theorem dX9_deposit_6 : decode cX9_deposit 6 = .ok (.getfield 10, 3) := by decide +kernel
theorem dX9_deposit_9 : decode cX9_deposit 9 = .ok (.iload_n 1, 1) := by decide +kernel
theorem dX9_deposit_10 : decode cX9_deposit 10 = .ok (.invokevirtual 336, 3) := by decide +kernel
theorem dX9_deposit_13 : decode cX9_deposit 13 = .ok (.ireturn, 1) := by decide +kernel
theorem dX9_paid_0 : decode cX9_paid 0 = .ok (.aload_n 0, 1) := by decide +kernel
theorem dX9_paid_1 : decode cX9_paid 1 = .ok (.iload_n 1, 1) := by decide +kernel
theorem dX9_paid_2 : decode cX9_paid 2 = .ok (.invokevirtual 132, 3) := by decide +kernel
theorem dX9_paid_5 : decode cX9_paid 5 = .ok (.aload_n 0, 1) := by decide +kernel
theorem dX9_paid_6 : decode cX9_paid 6 = .ok (.getfield 10, 3) := by decide +kernel
theorem dX9_paid_9 : decode cX9_paid 9 = .ok (.getfield 145, 3) := by decide +kernel
theorem dX9_paid_12 : decode cX9_paid 12 = .ok (.iload_n 1, 1) := by decide +kernel
theorem dX9_paid_13 : decode cX9_paid 13 = .ok (.aaload, 1) := by decide +kernel
theorem dX9_paid_14 : decode cX9_paid 14 = .ok (.getfield 149, 3) := by decide +kernel
theorem dX9_paid_17 : decode cX9_paid 17 = .ok (.ireturn, 1) := by decide +kernel
theorem dX9_sumHeld_0 : decode cX9_sumHeld 0 = .ok (.aload_n 0, 1) := by decide +kernel
theorem dX9_sumHeld_1 : decode cX9_sumHeld 1 = .ok (.getfield 10, 3) := by decide +kernel
theorem dX9_sumHeld_4 : decode cX9_sumHeld 4 = .ok (.iconst 0, 1) := by decide +kernel
theorem dX9_sumHeld_5 : decode cX9_sumHeld 5 = .ok (.invokevirtual 339, 3) := by decide +kernel
theorem dX9_sumHeld_8 : decode cX9_sumHeld 8 = .ok (.ireturn, 1) := by decide +kernel
theorem dX9_sumLost_0 : decode cX9_sumLost 0 = .ok (.aload_n 0, 1) := by decide +kernel
theorem dX9_sumLost_1 : decode cX9_sumLost 1 = .ok (.getfield 10, 3) := by decide +kernel
theorem dX9_sumLost_4 : decode cX9_sumLost 4 = .ok (.iconst 2, 1) := by decide +kernel
theorem dX9_sumLost_5 : decode cX9_sumLost 5 = .ok (.invokevirtual 339, 3) := by decide +kernel
theorem dX9_sumLost_8 : decode cX9_sumLost 8 = .ok (.ireturn, 1) := by decide +kernel
theorem dX9_needArea_0 : decode cX9_needArea 0 = .ok (.iload_n 1, 1) := by decide +kernel
theorem dX9_needArea_1 : decode cX9_needArea 1 = .ok (.ifCond .lt 17, 3) := by decide +kernel
theorem dX9_needArea_4 : decode cX9_needArea 4 = .ok (.iload_n 1, 1) := by decide +kernel
theorem dX9_needArea_5 : decode cX9_needArea 5 = .ok (.aload_n 0, 1) := by decide +kernel
theorem dX9_needArea_6 : decode cX9_needArea 6 = .ok (.getfield 10, 3) := by decide +kernel
theorem dX9_needArea_9 : decode cX9_needArea 9 = .ok (.getfield 68, 3) := by decide +kernel
theorem dX9_needArea_12 : decode cX9_needArea 12 = .ok (.getfield 72, 3) := by decide +kernel
theorem dX9_needArea_15 : decode cX9_needArea 15 = .ok (.if_icmp .lt 14, 3) := by decide +kernel
theorem dX9_needArea_18 : decode cX9_needArea 18 = .ok (.new 185, 3) := by decide +kernel
theorem dX9_needArea_21 : decode cX9_needArea 21 = .ok (.dup, 1) := by decide +kernel
theorem dX9_needArea_22 : decode cX9_needArea 22 = .ok (.ldc_w 347, 3) := by decide +kernel
theorem dX9_needArea_25 : decode cX9_needArea 25 = .ok (.invokespecial 189, 3) := by decide +kernel
theorem dX9_needArea_28 : decode cX9_needArea 28 = .ok (.athrow, 1) := by decide +kernel
theorem dX9_needArea_29 : decode cX9_needArea 29 = .ok (.return_, 1) := by decide +kernel
theorem dX9_needVoter_0 : decode cX9_needVoter 0 = .ok (.iload_n 1, 1) := by decide +kernel
theorem dX9_needVoter_1 : decode cX9_needVoter 1 = .ok (.ifCond .lt 17, 3) := by decide +kernel
theorem dX9_needVoter_4 : decode cX9_needVoter 4 = .ok (.iload_n 1, 1) := by decide +kernel
theorem dX9_needVoter_5 : decode cX9_needVoter 5 = .ok (.aload_n 0, 1) := by decide +kernel
theorem dX9_needVoter_6 : decode cX9_needVoter 6 = .ok (.getfield 10, 3) := by decide +kernel
theorem dX9_needVoter_9 : decode cX9_needVoter 9 = .ok (.getfield 68, 3) := by decide +kernel
theorem dX9_needVoter_12 : decode cX9_needVoter 12 = .ok (.getfield 83, 3) := by decide +kernel
theorem dX9_needVoter_15 : decode cX9_needVoter 15 = .ok (.if_icmp .lt 14, 3) := by decide +kernel
theorem dX9_needVoter_18 : decode cX9_needVoter 18 = .ok (.new 185, 3) := by decide +kernel
theorem dX9_needVoter_21 : decode cX9_needVoter 21 = .ok (.dup, 1) := by decide +kernel
theorem dX9_needVoter_22 : decode cX9_needVoter 22 = .ok (.ldc_w 349, 3) := by decide +kernel
theorem dX9_needVoter_25 : decode cX9_needVoter 25 = .ok (.invokespecial 189, 3) := by decide +kernel
theorem dX9_needVoter_28 : decode cX9_needVoter 28 = .ok (.athrow, 1) := by decide +kernel
theorem dX9_needVoter_29 : decode cX9_needVoter 29 = .ok (.return_, 1) := by decide +kernel
theorem dX9_needPaper_0 : decode cX9_needPaper 0 = .ok (.iload_n 1, 1) := by decide +kernel
theorem dX9_needPaper_1 : decode cX9_needPaper 1 = .ok (.ifCond .lt 14, 3) := by decide +kernel
theorem dX9_needPaper_4 : decode cX9_needPaper 4 = .ok (.iload_n 1, 1) := by decide +kernel
theorem dX9_needPaper_5 : decode cX9_needPaper 5 = .ok (.aload_n 0, 1) := by decide +kernel
theorem dX9_needPaper_6 : decode cX9_needPaper 6 = .ok (.getfield 10, 3) := by decide +kernel
theorem dX9_needPaper_9 : decode cX9_needPaper 9 = .ok (.getfield 43, 3) := by decide +kernel
theorem dX9_needPaper_12 : decode cX9_needPaper 12 = .ok (.if_icmp .lt 14, 3) := by decide +kernel
theorem dX9_needPaper_15 : decode cX9_needPaper 15 = .ok (.new 185, 3) := by decide +kernel
theorem dX9_needPaper_18 : decode cX9_needPaper 18 = .ok (.dup, 1) := by decide +kernel
theorem dX9_needPaper_19 : decode cX9_needPaper 19 = .ok (.ldc_w 351, 3) := by decide +kernel
theorem dX9_needPaper_22 : decode cX9_needPaper 22 = .ok (.invokespecial 189, 3) := by decide +kernel
theorem dX9_needPaper_25 : decode cX9_needPaper 25 = .ok (.athrow, 1) := by decide +kernel
theorem dX9_needPaper_26 : decode cX9_needPaper 26 = .ok (.return_, 1) := by decide +kernel
theorem dX9_needName_0 : decode cX9_needName 0 = .ok (.iload_n 1, 1) := by decide +kernel
theorem dX9_needName_1 : decode cX9_needName 1 = .ok (.invokestatic 353, 3) := by decide +kernel
theorem dX9_needName_4 : decode cX9_needName 4 = .ok (.ifCond .eq 28, 3) := by decide +kernel
theorem dX9_needName_7 : decode cX9_needName 7 = .ok (.iload_n 1, 1) := by decide +kernel
theorem dX9_needName_8 : decode cX9_needName 8 = .ok (.iload_n 2, 1) := by decide +kernel
theorem dX9_needName_9 : decode cX9_needName 9 = .ok (.invokestatic 357, 3) := by decide +kernel
theorem dX9_needName_12 : decode cX9_needName 12 = .ok (.ifCond .eq 20, 3) := by decide +kernel
theorem dX9_needName_15 : decode cX9_needName 15 = .ok (.iload_n 2, 1) := by decide +kernel
theorem dX9_needName_16 : decode cX9_needName 16 = .ok (.iload_n 3, 1) := by decide +kernel
theorem dX9_needName_17 : decode cX9_needName 17 = .ok (.invokestatic 357, 3) := by decide +kernel
theorem dX9_needName_20 : decode cX9_needName 20 = .ok (.ifCond .eq 12, 3) := by decide +kernel
theorem dX9_needName_23 : decode cX9_needName 23 = .ok (.iload_n 3, 1) := by decide +kernel
theorem dX9_needName_24 : decode cX9_needName 24 = .ok (.iload 4, 2) := by decide +kernel
theorem dX9_needName_26 : decode cX9_needName 26 = .ok (.invokestatic 357, 3) := by decide +kernel
theorem dX9_needName_29 : decode cX9_needName 29 = .ok (.ifCond .ne 14, 3) := by decide +kernel
theorem dX9_needName_32 : decode cX9_needName 32 = .ok (.new 26, 3) := by decide +kernel
theorem dX9_needName_35 : decode cX9_needName 35 = .ok (.dup, 1) := by decide +kernel
theorem dX9_needName_36 : decode cX9_needName 36 = .ok (.ldc_w 361, 3) := by decide +kernel
theorem dX9_needName_39 : decode cX9_needName 39 = .ok (.invokespecial 30, 3) := by decide +kernel
theorem dX9_needName_42 : decode cX9_needName 42 = .ok (.athrow, 1) := by decide +kernel
theorem dX9_needName_43 : decode cX9_needName 43 = .ok (.return_, 1) := by decide +kernel
theorem dX9_needPrecinct_0 : decode cX9_needPrecinct 0 = .ok (.iload_n 1, 1) := by decide +kernel
theorem dX9_needPrecinct_1 : decode cX9_needPrecinct 1 = .ok (.ifCond .lt 10, 3) := by decide +kernel
theorem dX9_needPrecinct_4 : decode cX9_needPrecinct 4 = .ok (.iload_n 1, 1) := by decide +kernel
theorem dX9_needPrecinct_5 : decode cX9_needPrecinct 5 = .ok (.sipush 999, 3) := by decide +kernel
theorem dX9_needPrecinct_8 : decode cX9_needPrecinct 8 = .ok (.if_icmp .le 14, 3) := by decide +kernel
theorem dX9_needPrecinct_11 : decode cX9_needPrecinct 11 = .ok (.new 26, 3) := by decide +kernel
theorem dX9_needPrecinct_14 : decode cX9_needPrecinct 14 = .ok (.dup, 1) := by decide +kernel
theorem dX9_needPrecinct_15 : decode cX9_needPrecinct 15 = .ok (.ldc_w 363, 3) := by decide +kernel
theorem dX9_needPrecinct_18 : decode cX9_needPrecinct 18 = .ok (.invokespecial 30, 3) := by decide +kernel
theorem dX9_needPrecinct_21 : decode cX9_needPrecinct 21 = .ok (.athrow, 1) := by decide +kernel
theorem dX9_needPrecinct_22 : decode cX9_needPrecinct 22 = .ok (.return_, 1) := by decide +kernel
theorem dX9_needOpen_0 : decode cX9_needOpen 0 = .ok (.aload_n 0, 1) := by decide +kernel
theorem dX9_needOpen_1 : decode cX9_needOpen 1 = .ok (.getfield 10, 3) := by decide +kernel
theorem dX9_needOpen_4 : decode cX9_needOpen 4 = .ok (.getfield 33, 3) := by decide +kernel
theorem dX9_needOpen_7 : decode cX9_needOpen 7 = .ok (.invokevirtual 62, 3) := by decide +kernel
theorem dX9_needOpen_10 : decode cX9_needOpen 10 = .ok (.ifCond .ne 14, 3) := by decide +kernel
theorem dX9_needOpen_13 : decode cX9_needOpen 13 = .ok (.new 46, 3) := by decide +kernel
theorem dX9_needOpen_16 : decode cX9_needOpen 16 = .ok (.dup, 1) := by decide +kernel
theorem dX9_needOpen_17 : decode cX9_needOpen 17 = .ok (.ldc_w 365, 3) := by decide +kernel
theorem dX9_needOpen_20 : decode cX9_needOpen 20 = .ok (.invokespecial 50, 3) := by decide +kernel
theorem dX9_needOpen_23 : decode cX9_needOpen 23 = .ok (.athrow, 1) := by decide +kernel
theorem dX9_needOpen_24 : decode cX9_needOpen 24 = .ok (.return_, 1) := by decide +kernel
theorem dX9_needNotWithdrawn_0 : decode cX9_needNotWithdrawn 0 = .ok (.aload_n 0, 1) := by decide +kernel
theorem dX9_needNotWithdrawn_1 : decode cX9_needNotWithdrawn 1 = .ok (.getfield 10, 3) := by decide +kernel
theorem dX9_needNotWithdrawn_4 : decode cX9_needNotWithdrawn 4 = .ok (.iload_n 1, 1) := by decide +kernel
theorem dX9_needNotWithdrawn_5 : decode cX9_needNotWithdrawn 5 = .ok (.invokevirtual 367, 3) := by decide +kernel
theorem dX9_needNotWithdrawn_8 : decode cX9_needNotWithdrawn 8 = .ok (.ifCond .eq 14, 3) := by decide +kernel
theorem dX9_needNotWithdrawn_11 : decode cX9_needNotWithdrawn 11 = .ok (.new 46, 3) := by decide +kernel
theorem dX9_needNotWithdrawn_14 : decode cX9_needNotWithdrawn 14 = .ok (.dup, 1) := by decide +kernel
theorem dX9_needNotWithdrawn_15 : decode cX9_needNotWithdrawn 15 = .ok (.ldc_w 370, 3) := by decide +kernel
theorem dX9_needNotWithdrawn_18 : decode cX9_needNotWithdrawn 18 = .ok (.invokespecial 50, 3) := by decide +kernel
theorem dX9_needNotWithdrawn_21 : decode cX9_needNotWithdrawn 21 = .ok (.athrow, 1) := by decide +kernel
theorem dX9_needNotWithdrawn_22 : decode cX9_needNotWithdrawn 22 = .ok (.return_, 1) := by decide +kernel
theorem dX9_needNotRejected_0 : decode cX9_needNotRejected 0 = .ok (.aload_n 0, 1) := by decide +kernel
theorem dX9_needNotRejected_1 : decode cX9_needNotRejected 1 = .ok (.getfield 10, 3) := by decide +kernel
theorem dX9_needNotRejected_4 : decode cX9_needNotRejected 4 = .ok (.iload_n 1, 1) := by decide +kernel
theorem dX9_needNotRejected_5 : decode cX9_needNotRejected 5 = .ok (.invokevirtual 372, 3) := by decide +kernel
theorem dX9_needNotRejected_8 : decode cX9_needNotRejected 8 = .ok (.ifCond .eq 14, 3) := by decide +kernel
theorem dX9_needNotRejected_11 : decode cX9_needNotRejected 11 = .ok (.new 46, 3) := by decide +kernel
theorem dX9_needNotRejected_14 : decode cX9_needNotRejected 14 = .ok (.dup, 1) := by decide +kernel
theorem dX9_needNotRejected_15 : decode cX9_needNotRejected 15 = .ok (.ldc_w 375, 3) := by decide +kernel
theorem dX9_needNotRejected_18 : decode cX9_needNotRejected 18 = .ok (.invokespecial 50, 3) := by decide +kernel
theorem dX9_needNotRejected_21 : decode cX9_needNotRejected 21 = .ok (.athrow, 1) := by decide +kernel
theorem dX9_needNotRejected_22 : decode cX9_needNotRejected 22 = .ok (.return_, 1) := by decide +kernel
theorem dX9_needStanding_0 : decode cX9_needStanding 0 = .ok (.aload_n 0, 1) := by decide +kernel
theorem dX9_needStanding_1 : decode cX9_needStanding 1 = .ok (.getfield 10, 3) := by decide +kernel
theorem dX9_needStanding_4 : decode cX9_needStanding 4 = .ok (.iload_n 1, 1) := by decide +kernel
theorem dX9_needStanding_5 : decode cX9_needStanding 5 = .ok (.invokevirtual 234, 3) := by decide +kernel
theorem dX9_needStanding_8 : decode cX9_needStanding 8 = .ok (.ifCond .eq 14, 3) := by decide +kernel
theorem dX9_needStanding_11 : decode cX9_needStanding 11 = .ok (.new 46, 3) := by decide +kernel
theorem dX9_needStanding_14 : decode cX9_needStanding 14 = .ok (.dup, 1) := by decide +kernel
theorem dX9_needStanding_15 : decode cX9_needStanding 15 = .ok (.ldc_w 377, 3) := by decide +kernel
theorem dX9_needStanding_18 : decode cX9_needStanding 18 = .ok (.invokespecial 50, 3) := by decide +kernel
theorem dX9_needStanding_21 : decode cX9_needStanding 21 = .ok (.athrow, 1) := by decide +kernel
theorem dX9_needStanding_22 : decode cX9_needStanding 22 = .ok (.return_, 1) := by decide +kernel
theorem dX9_needLetters_0 : decode cX9_needLetters 0 = .ok (.aload_n 0, 1) := by decide +kernel
theorem dX9_needLetters_1 : decode cX9_needLetters 1 = .ok (.getfield 10, 3) := by decide +kernel
theorem dX9_needLetters_4 : decode cX9_needLetters 4 = .ok (.getfield 265, 3) := by decide +kernel
theorem dX9_needLetters_7 : decode cX9_needLetters 7 = .ok (.getfield 269, 3) := by decide +kernel
theorem dX9_needLetters_10 : decode cX9_needLetters 10 = .ok (.ifCond .ne 14, 3) := by decide +kernel
theorem dX9_needLetters_13 : decode cX9_needLetters 13 = .ok (.new 46, 3) := by decide +kernel
theorem dX9_needLetters_16 : decode cX9_needLetters 16 = .ok (.dup, 1) := by decide +kernel
theorem dX9_needLetters_17 : decode cX9_needLetters 17 = .ok (.ldc_w 379, 3) := by decide +kernel
theorem dX9_needLetters_20 : decode cX9_needLetters 20 = .ok (.invokespecial 50, 3) := by decide +kernel
theorem dX9_needLetters_23 : decode cX9_needLetters 23 = .ok (.athrow, 1) := by decide +kernel
theorem dX9_needLetters_24 : decode cX9_needLetters 24 = .ok (.return_, 1) := by decide +kernel
theorem dX9_needCounting_0 : decode cX9_needCounting 0 = .ok (.aload_n 0, 1) := by decide +kernel
theorem dX9_needCounting_1 : decode cX9_needCounting 1 = .ok (.getfield 10, 3) := by decide +kernel
theorem dX9_needCounting_4 : decode cX9_needCounting 4 = .ok (.getfield 33, 3) := by decide +kernel
theorem dX9_needCounting_7 : decode cX9_needCounting 7 = .ok (.invokevirtual 171, 3) := by decide +kernel
theorem dX9_needCounting_10 : decode cX9_needCounting 10 = .ok (.ifCond .ne 14, 3) := by decide +kernel
theorem dX9_needCounting_13 : decode cX9_needCounting 13 = .ok (.new 46, 3) := by decide +kernel
theorem dX9_needCounting_16 : decode cX9_needCounting 16 = .ok (.dup, 1) := by decide +kernel
theorem dX9_needCounting_17 : decode cX9_needCounting 17 = .ok (.ldc_w 381, 3) := by decide +kernel
theorem dX9_needCounting_20 : decode cX9_needCounting 20 = .ok (.invokespecial 50, 3) := by decide +kernel
theorem dX9_needCounting_23 : decode cX9_needCounting 23 = .ok (.athrow, 1) := by decide +kernel
theorem dX9_needCounting_24 : decode cX9_needCounting 24 = .ok (.aload_n 0, 1) := by decide +kernel
theorem dX9_needCounting_25 : decode cX9_needCounting 25 = .ok (.getfield 10, 3) := by decide +kernel
theorem dX9_needCounting_28 : decode cX9_needCounting 28 = .ok (.getfield 68, 3) := by decide +kernel
theorem dX9_needCounting_31 : decode cX9_needCounting 31 = .ok (.getfield 320, 3) := by decide +kernel
theorem dX9_needCounting_34 : decode cX9_needCounting 34 = .ok (.iload_n 1, 1) := by decide +kernel
theorem dX9_needCounting_35 : decode cX9_needCounting 35 = .ok (.aaload, 1) := by decide +kernel
theorem dX9_needCounting_36 : decode cX9_needCounting 36 = .ok (.getfield 324, 3) := by decide +kernel
theorem dX9_needCounting_39 : decode cX9_needCounting 39 = .ok (.ifCond .eq 14, 3) := by decide +kernel
theorem dX9_needCounting_42 : decode cX9_needCounting 42 = .ok (.new 46, 3) := by decide +kernel
theorem dX9_needCounting_45 : decode cX9_needCounting 45 = .ok (.dup, 1) := by decide +kernel
theorem dX9_needCounting_46 : decode cX9_needCounting 46 = .ok (.ldc_w 383, 3) := by decide +kernel
theorem dX9_needCounting_49 : decode cX9_needCounting 49 = .ok (.invokespecial 50, 3) := by decide +kernel
theorem dX9_needCounting_52 : decode cX9_needCounting 52 = .ok (.athrow, 1) := by decide +kernel
theorem dX9_needCounting_53 : decode cX9_needCounting 53 = .ok (.return_, 1) := by decide +kernel
theorem dX9_happen_0 : decode cX9_happen 0 = .ok (.aload_n 0, 1) := by decide +kernel
theorem dX9_happen_1 : decode cX9_happen 1 = .ok (.getfield 22, 3) := by decide +kernel
theorem dX9_happen_4 : decode cX9_happen 4 = .ok (.iload_n 1, 1) := by decide +kernel
theorem dX9_happen_5 : decode cX9_happen 5 = .ok (.iload_n 2, 1) := by decide +kernel
theorem dX9_happen_6 : decode cX9_happen 6 = .ok (.iload_n 3, 1) := by decide +kernel
theorem dX9_happen_7 : decode cX9_happen 7 = .ok (.iload 4, 2) := by decide +kernel
theorem dX9_happen_9 : decode cX9_happen 9 = .ok (.invokevirtual 385, 3) := by decide +kernel
theorem dX9_happen_12 : decode cX9_happen 12 = .ok (.aload_n 0, 1) := by decide +kernel
theorem dX9_happen_13 : decode cX9_happen 13 = .ok (.getfield 10, 3) := by decide +kernel
theorem dX9_happen_16 : decode cX9_happen 16 = .ok (.iload_n 1, 1) := by decide +kernel
theorem dX9_happen_17 : decode cX9_happen 17 = .ok (.iload_n 2, 1) := by decide +kernel
theorem dX9_happen_18 : decode cX9_happen 18 = .ok (.iload_n 3, 1) := by decide +kernel
theorem dX9_happen_19 : decode cX9_happen 19 = .ok (.iload 4, 2) := by decide +kernel
theorem dX9_happen_21 : decode cX9_happen 21 = .ok (.invokevirtual 256, 3) := by decide +kernel
theorem dX9_happen_24 : decode cX9_happen 24 = .ok (.aload_n 0, 1) := by decide +kernel
theorem dX9_happen_25 : decode cX9_happen 25 = .ok (.getfield 10, 3) := by decide +kernel
theorem dX9_happen_28 : decode cX9_happen 28 = .ok (.invokevirtual 257, 3) := by decide +kernel
theorem dX9_happen_31 : decode cX9_happen 31 = .ok (.return_, 1) := by decide +kernel
theorem dX9_isSmallLetter_0 : decode cX9_isSmallLetter 0 = .ok (.iload_n 0, 1) := by decide +kernel
theorem dX9_isSmallLetter_1 : decode cX9_isSmallLetter 1 = .ok (.bipush 97, 2) := by decide +kernel
theorem dX9_isSmallLetter_3 : decode cX9_isSmallLetter 3 = .ok (.if_icmp .lt 13, 3) := by decide +kernel
theorem dX9_isSmallLetter_6 : decode cX9_isSmallLetter 6 = .ok (.iload_n 0, 1) := by decide +kernel
theorem dX9_isSmallLetter_7 : decode cX9_isSmallLetter 7 = .ok (.bipush 122, 2) := by decide +kernel
theorem dX9_isSmallLetter_9 : decode cX9_isSmallLetter 9 = .ok (.if_icmp .gt 7, 3) := by decide +kernel
theorem dX9_isSmallLetter_12 : decode cX9_isSmallLetter 12 = .ok (.iconst 1, 1) := by decide +kernel
theorem dX9_isSmallLetter_13 : decode cX9_isSmallLetter 13 = .ok (.goto 4, 3) := by decide +kernel
theorem dX9_isSmallLetter_16 : decode cX9_isSmallLetter 16 = .ok (.iconst 0, 1) := by decide +kernel
theorem dX9_isSmallLetter_17 : decode cX9_isSmallLetter 17 = .ok (.ireturn, 1) := by decide +kernel
theorem dX9_mayFollow_0 : decode cX9_mayFollow 0 = .ok (.iload_n 1, 1) := by decide +kernel
theorem dX9_mayFollow_1 : decode cX9_mayFollow 1 = .ok (.bipush 32, 2) := by decide +kernel
theorem dX9_mayFollow_3 : decode cX9_mayFollow 3 = .ok (.if_icmp .eq 16, 3) := by decide +kernel
theorem dX9_mayFollow_6 : decode cX9_mayFollow 6 = .ok (.iload_n 0, 1) := by decide +kernel
theorem dX9_mayFollow_7 : decode cX9_mayFollow 7 = .ok (.bipush 32, 2) := by decide +kernel
theorem dX9_mayFollow_9 : decode cX9_mayFollow 9 = .ok (.if_icmp .eq 14, 3) := by decide +kernel
theorem dX9_mayFollow_12 : decode cX9_mayFollow 12 = .ok (.iload_n 1, 1) := by decide +kernel
theorem dX9_mayFollow_13 : decode cX9_mayFollow 13 = .ok (.invokestatic 353, 3) := by decide +kernel
theorem dX9_mayFollow_16 : decode cX9_mayFollow 16 = .ok (.ifCond .eq 7, 3) := by decide +kernel
theorem dX9_mayFollow_19 : decode cX9_mayFollow 19 = .ok (.iconst 1, 1) := by decide +kernel
theorem dX9_mayFollow_20 : decode cX9_mayFollow 20 = .ok (.goto 4, 3) := by decide +kernel
theorem dX9_mayFollow_23 : decode cX9_mayFollow 23 = .ok (.iconst 0, 1) := by decide +kernel
theorem dX9_mayFollow_24 : decode cX9_mayFollow 24 = .ok (.ireturn, 1) := by decide +kernel
theorem dX9_nameOf_0 : decode cX9_nameOf 0 = .ok (.iload_n 0, 1) := by decide +kernel
theorem dX9_nameOf_1 : decode cX9_nameOf 1 = .ok (.bipush 24, 2) := by decide +kernel
theorem dX9_nameOf_3 : decode cX9_nameOf 3 = .ok (.ishl, 1) := by decide +kernel
theorem dX9_nameOf_4 : decode cX9_nameOf 4 = .ok (.iload_n 1, 1) := by decide +kernel
theorem dX9_nameOf_5 : decode cX9_nameOf 5 = .ok (.bipush 16, 2) := by decide +kernel
theorem dX9_nameOf_7 : decode cX9_nameOf 7 = .ok (.ishl, 1) := by decide +kernel
theorem dX9_nameOf_8 : decode cX9_nameOf 8 = .ok (.ior, 1) := by decide +kernel
theorem dX9_nameOf_9 : decode cX9_nameOf 9 = .ok (.iload_n 2, 1) := by decide +kernel
theorem dX9_nameOf_10 : decode cX9_nameOf 10 = .ok (.bipush 8, 2) := by decide +kernel
theorem dX9_nameOf_12 : decode cX9_nameOf 12 = .ok (.ishl, 1) := by decide +kernel
theorem dX9_nameOf_13 : decode cX9_nameOf 13 = .ok (.ior, 1) := by decide +kernel
theorem dX9_nameOf_14 : decode cX9_nameOf 14 = .ok (.iload_n 3, 1) := by decide +kernel
theorem dX9_nameOf_15 : decode cX9_nameOf 15 = .ok (.ior, 1) := by decide +kernel
theorem dX9_nameOf_16 : decode cX9_nameOf 16 = .ok (.ireturn, 1) := by decide +kernel
theorem dX9_characterOf_0 : decode cX9_characterOf 0 = .ok (.iload_n 0, 1) := by decide +kernel
theorem dX9_characterOf_1 : decode cX9_characterOf 1 = .ok (.bipush 8, 2) := by decide +kernel
theorem dX9_characterOf_3 : decode cX9_characterOf 3 = .ok (.iconst 3, 1) := by decide +kernel
theorem dX9_characterOf_4 : decode cX9_characterOf 4 = .ok (.iload_n 1, 1) := by decide +kernel
theorem dX9_characterOf_5 : decode cX9_characterOf 5 = .ok (.isub, 1) := by decide +kernel
theorem dX9_characterOf_6 : decode cX9_characterOf 6 = .ok (.imul, 1) := by decide +kernel
theorem dX9_characterOf_7 : decode cX9_characterOf 7 = .ok (.ishr, 1) := by decide +kernel
theorem dX9_characterOf_8 : decode cX9_characterOf 8 = .ok (.sipush 255, 3) := by decide +kernel
theorem dX9_characterOf_11 : decode cX9_characterOf 11 = .ok (.iand, 1) := by decide +kernel
theorem dX9_characterOf_12 : decode cX9_characterOf 12 = .ok (.i2c, 1) := by decide +kernel
theorem dX9_characterOf_13 : decode cX9_characterOf 13 = .ok (.ireturn, 1) := by decide +kernel
theorem dX9_around_0 : decode cX9_around 0 = .ok (.iload_n 1, 1) := by decide +kernel
theorem dX9_around_1 : decode cX9_around 1 = .ok (.ifCond .le 11, 3) := by decide +kernel
theorem dX9_around_4 : decode cX9_around 4 = .ok (.iload_n 0, 1) := by decide +kernel
theorem dX9_around_5 : decode cX9_around 5 = .ok (.iload_n 1, 1) := by decide +kernel
theorem dX9_around_6 : decode cX9_around 6 = .ok (.invokestatic 388, 3) := by decide +kernel
theorem dX9_around_9 : decode cX9_around 9 = .ok (.goto 4, 3) := by decide +kernel
theorem dX9_around_12 : decode cX9_around 12 = .ok (.iconst 0, 1) := by decide +kernel
theorem dX9_around_13 : decode cX9_around 13 = .ok (.ireturn, 1) := by decide +kernel
theorem dJx00060_init_a7421_0 : decode cJx00060_init_a7421 0 = .ok (.aload_n 0, 1) := by decide +kernel
theorem dJx00060_init_a7421_1 : decode cJx00060_init_a7421 1 = .ok (.aload_n 1, 1) := by decide +kernel
theorem dJx00060_init_a7421_2 : decode cJx00060_init_a7421 2 = .ok (.invokespecial 7, 3) := by decide +kernel
theorem dJx00060_init_a7421_5 : decode cJx00060_init_a7421 5 = .ok (.return_, 1) := by decide +kernel
theorem dJ6_bitCount_0f7a4_0 : decode cJ6_bitCount_0f7a4 0 = .ok (.iload_n 0, 1) := by decide +kernel
theorem dJ6_bitCount_0f7a4_1 : decode cJ6_bitCount_0f7a4 1 = .ok (.iload_n 0, 1) := by decide +kernel
theorem dJ6_bitCount_0f7a4_2 : decode cJ6_bitCount_0f7a4 2 = .ok (.iconst 1, 1) := by decide +kernel
theorem dJ6_bitCount_0f7a4_3 : decode cJ6_bitCount_0f7a4 3 = .ok (.iushr, 1) := by decide +kernel
theorem dJ6_bitCount_0f7a4_4 : decode cJ6_bitCount_0f7a4 4 = .ok (.ldc_w 265, 3) := by decide +kernel
theorem dJ6_bitCount_0f7a4_7 : decode cJ6_bitCount_0f7a4 7 = .ok (.iand, 1) := by decide +kernel
theorem dJ6_bitCount_0f7a4_8 : decode cJ6_bitCount_0f7a4 8 = .ok (.isub, 1) := by decide +kernel
theorem dJ6_bitCount_0f7a4_9 : decode cJ6_bitCount_0f7a4 9 = .ok (.istore_n 0, 1) := by decide +kernel
theorem dJ6_bitCount_0f7a4_10 : decode cJ6_bitCount_0f7a4 10 = .ok (.iload_n 0, 1) := by decide +kernel
theorem dJ6_bitCount_0f7a4_11 : decode cJ6_bitCount_0f7a4 11 = .ok (.ldc_w 266, 3) := by decide +kernel
theorem dJ6_bitCount_0f7a4_14 : decode cJ6_bitCount_0f7a4 14 = .ok (.iand, 1) := by decide +kernel
theorem dJ6_bitCount_0f7a4_15 : decode cJ6_bitCount_0f7a4 15 = .ok (.iload_n 0, 1) := by decide +kernel
theorem dJ6_bitCount_0f7a4_16 : decode cJ6_bitCount_0f7a4 16 = .ok (.iconst 2, 1) := by decide +kernel
theorem dJ6_bitCount_0f7a4_17 : decode cJ6_bitCount_0f7a4 17 = .ok (.iushr, 1) := by decide +kernel
theorem dJ6_bitCount_0f7a4_18 : decode cJ6_bitCount_0f7a4 18 = .ok (.ldc_w 266, 3) := by decide +kernel
theorem dJ6_bitCount_0f7a4_21 : decode cJ6_bitCount_0f7a4 21 = .ok (.iand, 1) := by decide +kernel
theorem dJ6_bitCount_0f7a4_22 : decode cJ6_bitCount_0f7a4 22 = .ok (.iadd, 1) := by decide +kernel
theorem dJ6_bitCount_0f7a4_23 : decode cJ6_bitCount_0f7a4 23 = .ok (.istore_n 0, 1) := by decide +kernel
theorem dJ6_bitCount_0f7a4_24 : decode cJ6_bitCount_0f7a4 24 = .ok (.iload_n 0, 1) := by decide +kernel
theorem dJ6_bitCount_0f7a4_25 : decode cJ6_bitCount_0f7a4 25 = .ok (.iload_n 0, 1) := by decide +kernel
theorem dJ6_bitCount_0f7a4_26 : decode cJ6_bitCount_0f7a4 26 = .ok (.iconst 4, 1) := by decide +kernel
theorem dJ6_bitCount_0f7a4_27 : decode cJ6_bitCount_0f7a4 27 = .ok (.iushr, 1) := by decide +kernel
theorem dJ6_bitCount_0f7a4_28 : decode cJ6_bitCount_0f7a4 28 = .ok (.iadd, 1) := by decide +kernel
theorem dJ6_bitCount_0f7a4_29 : decode cJ6_bitCount_0f7a4 29 = .ok (.ldc_w 267, 3) := by decide +kernel
theorem dJ6_bitCount_0f7a4_32 : decode cJ6_bitCount_0f7a4 32 = .ok (.iand, 1) := by decide +kernel
theorem dJ6_bitCount_0f7a4_33 : decode cJ6_bitCount_0f7a4 33 = .ok (.istore_n 0, 1) := by decide +kernel
theorem dJ6_bitCount_0f7a4_34 : decode cJ6_bitCount_0f7a4 34 = .ok (.iload_n 0, 1) := by decide +kernel
theorem dJ6_bitCount_0f7a4_35 : decode cJ6_bitCount_0f7a4 35 = .ok (.iload_n 0, 1) := by decide +kernel
theorem dJ6_bitCount_0f7a4_36 : decode cJ6_bitCount_0f7a4 36 = .ok (.bipush 8, 2) := by decide +kernel
theorem dJ6_bitCount_0f7a4_38 : decode cJ6_bitCount_0f7a4 38 = .ok (.iushr, 1) := by decide +kernel
theorem dJ6_bitCount_0f7a4_39 : decode cJ6_bitCount_0f7a4 39 = .ok (.iadd, 1) := by decide +kernel
theorem dJ6_bitCount_0f7a4_40 : decode cJ6_bitCount_0f7a4 40 = .ok (.istore_n 0, 1) := by decide +kernel
theorem dJ6_bitCount_0f7a4_41 : decode cJ6_bitCount_0f7a4 41 = .ok (.iload_n 0, 1) := by decide +kernel
theorem dJ6_bitCount_0f7a4_42 : decode cJ6_bitCount_0f7a4 42 = .ok (.iload_n 0, 1) := by decide +kernel
theorem dJ6_bitCount_0f7a4_43 : decode cJ6_bitCount_0f7a4 43 = .ok (.bipush 16, 2) := by decide +kernel
theorem dJ6_bitCount_0f7a4_45 : decode cJ6_bitCount_0f7a4 45 = .ok (.iushr, 1) := by decide +kernel
theorem dJ6_bitCount_0f7a4_46 : decode cJ6_bitCount_0f7a4 46 = .ok (.iadd, 1) := by decide +kernel
theorem dJ6_bitCount_0f7a4_47 : decode cJ6_bitCount_0f7a4 47 = .ok (.istore_n 0, 1) := by decide +kernel
theorem dJ6_bitCount_0f7a4_48 : decode cJ6_bitCount_0f7a4 48 = .ok (.iload_n 0, 1) := by decide +kernel
theorem dJ6_bitCount_0f7a4_49 : decode cJ6_bitCount_0f7a4 49 = .ok (.bipush 63, 2) := by decide +kernel
theorem dJ6_bitCount_0f7a4_51 : decode cJ6_bitCount_0f7a4 51 = .ok (.iand, 1) := by decide +kernel
theorem dJ6_bitCount_0f7a4_52 : decode cJ6_bitCount_0f7a4 52 = .ok (.ireturn, 1) := by decide +kernel
theorem dJ9_floorMod_7cf53_0 : decode cJ9_floorMod_7cf53 0 = .ok (.iload_n 0, 1) := by decide +kernel
theorem dJ9_floorMod_7cf53_1 : decode cJ9_floorMod_7cf53 1 = .ok (.iload_n 1, 1) := by decide +kernel
theorem dJ9_floorMod_7cf53_2 : decode cJ9_floorMod_7cf53 2 = .ok (.irem, 1) := by decide +kernel
theorem dJ9_floorMod_7cf53_3 : decode cJ9_floorMod_7cf53 3 = .ok (.istore_n 2, 1) := by decide +kernel
theorem dJ9_floorMod_7cf53_4 : decode cJ9_floorMod_7cf53 4 = .ok (.iload_n 0, 1) := by decide +kernel
theorem dJ9_floorMod_7cf53_5 : decode cJ9_floorMod_7cf53 5 = .ok (.iload_n 1, 1) := by decide +kernel
theorem dJ9_floorMod_7cf53_6 : decode cJ9_floorMod_7cf53 6 = .ok (.ixor, 1) := by decide +kernel
theorem dJ9_floorMod_7cf53_7 : decode cJ9_floorMod_7cf53 7 = .ok (.ifCond .ge 11, 3) := by decide +kernel
theorem dJ9_floorMod_7cf53_10 : decode cJ9_floorMod_7cf53 10 = .ok (.iload_n 2, 1) := by decide +kernel
theorem dJ9_floorMod_7cf53_11 : decode cJ9_floorMod_7cf53 11 = .ok (.ifCond .eq 7, 3) := by decide +kernel
theorem dJ9_floorMod_7cf53_14 : decode cJ9_floorMod_7cf53 14 = .ok (.iload_n 2, 1) := by decide +kernel
theorem dJ9_floorMod_7cf53_15 : decode cJ9_floorMod_7cf53 15 = .ok (.iload_n 1, 1) := by decide +kernel
theorem dJ9_floorMod_7cf53_16 : decode cJ9_floorMod_7cf53 16 = .ok (.iadd, 1) := by decide +kernel
theorem dJ9_floorMod_7cf53_17 : decode cJ9_floorMod_7cf53 17 = .ok (.ireturn, 1) := by decide +kernel
theorem dJ9_floorMod_7cf53_18 : decode cJ9_floorMod_7cf53 18 = .ok (.iload_n 2, 1) := by decide +kernel
theorem dJ9_floorMod_7cf53_19 : decode cJ9_floorMod_7cf53 19 = .ok (.ireturn, 1) := by decide +kernel
theorem dL_cell_0 : decode cL_cell 0 = .ok (.iload_n 1, 1) := by decide +kernel
theorem dL_cell_1 : decode cL_cell 1 = .ok (.aload_n 0, 1) := by decide +kernel
theorem dL_cell_2 : decode cL_cell 2 = .ok (.arraylength, 1) := by decide +kernel
theorem dL_cell_3 : decode cL_cell 3 = .ok (.if_icmp .ge 9, 3) := by decide +kernel
theorem dL_cell_6 : decode cL_cell 6 = .ok (.aload_n 0, 1) := by decide +kernel
theorem dL_cell_7 : decode cL_cell 7 = .ok (.iload_n 1, 1) := by decide +kernel
theorem dL_cell_8 : decode cL_cell 8 = .ok (.iaload, 1) := by decide +kernel
theorem dL_cell_9 : decode cL_cell 9 = .ok (.goto 11, 3) := by decide +kernel
theorem dL_cell_12 : decode cL_cell 12 = .ok (.ldc 7, 2) := by decide +kernel
theorem dL_cell_14 : decode cL_cell 14 = .ok (.iload_n 1, 1) := by decide +kernel
theorem dL_cell_15 : decode cL_cell 15 = .ok (.imul, 1) := by decide +kernel
theorem dL_cell_16 : decode cL_cell 16 = .ok (.sipush 431, 3) := by decide +kernel
theorem dL_cell_19 : decode cL_cell 19 = .ok (.iadd, 1) := by decide +kernel
theorem dL_cell_20 : decode cL_cell 20 = .ok (.ireturn, 1) := by decide +kernel
theorem dL_low_0 : decode cL_low 0 = .ok (.iload_n 0, 1) := by decide +kernel
theorem dL_low_1 : decode cL_low 1 = .ok (.ldc 8, 2) := by decide +kernel
theorem dL_low_3 : decode cL_low 3 = .ok (.iand, 1) := by decide +kernel
theorem dL_low_4 : decode cL_low 4 = .ok (.iload_n 1, 1) := by decide +kernel
theorem dL_low_5 : decode cL_low 5 = .ok (.irem, 1) := by decide +kernel
theorem dL_low_6 : decode cL_low 6 = .ok (.ireturn, 1) := by decide +kernel
theorem dL_call_0 : decode cL_call 0 = .ok (.iload_n 1, 1) := by decide +kernel
theorem dL_call_1 : decode cL_call 1 = .ok (.tableswitch 365 0 30 #[139, 145, 152, 158, 165, 171, 177, 184, 191, 197, 211, 225, 231, 237, 252, 258, 265, 271, 277, 283, 289, 295, 301, 308, 315, 321, 327, 333, 339, 345, 351], 139) := by decide +kernel
theorem dL_call_140 : decode cL_call 140 = .ok (.aload_n 0, 1) := by decide +kernel
theorem dL_call_141 : decode cL_call 141 = .ok (.iload_n 2, 1) := by decide +kernel
theorem dL_call_142 : decode cL_call 142 = .ok (.invokevirtual 9, 3) := by decide +kernel
theorem dL_call_145 : decode cL_call 145 = .ok (.ireturn, 1) := by decide +kernel
theorem dL_call_146 : decode cL_call 146 = .ok (.aload_n 0, 1) := by decide +kernel
theorem dL_call_147 : decode cL_call 147 = .ok (.iload_n 2, 1) := by decide +kernel
theorem dL_call_148 : decode cL_call 148 = .ok (.iload_n 3, 1) := by decide +kernel
theorem dL_call_149 : decode cL_call 149 = .ok (.invokevirtual 15, 3) := by decide +kernel
theorem dL_call_152 : decode cL_call 152 = .ok (.ireturn, 1) := by decide +kernel
theorem dL_call_153 : decode cL_call 153 = .ok (.aload_n 0, 1) := by decide +kernel
theorem dL_call_154 : decode cL_call 154 = .ok (.iload_n 2, 1) := by decide +kernel
theorem dL_call_155 : decode cL_call 155 = .ok (.invokevirtual 19, 3) := by decide +kernel
theorem dL_call_158 : decode cL_call 158 = .ok (.ireturn, 1) := by decide +kernel
theorem dL_call_159 : decode cL_call 159 = .ok (.aload_n 0, 1) := by decide +kernel
theorem dL_call_160 : decode cL_call 160 = .ok (.iload_n 2, 1) := by decide +kernel
theorem dL_call_161 : decode cL_call 161 = .ok (.iload_n 3, 1) := by decide +kernel
theorem dL_call_162 : decode cL_call 162 = .ok (.invokevirtual 22, 3) := by decide +kernel
theorem dL_call_165 : decode cL_call 165 = .ok (.ireturn, 1) := by decide +kernel
theorem dL_call_166 : decode cL_call 166 = .ok (.aload_n 0, 1) := by decide +kernel
theorem dL_call_167 : decode cL_call 167 = .ok (.iload_n 2, 1) := by decide +kernel
theorem dL_call_168 : decode cL_call 168 = .ok (.invokevirtual 25, 3) := by decide +kernel
theorem dL_call_171 : decode cL_call 171 = .ok (.ireturn, 1) := by decide +kernel
theorem dL_call_172 : decode cL_call 172 = .ok (.aload_n 0, 1) := by decide +kernel
theorem dL_call_173 : decode cL_call 173 = .ok (.iload_n 2, 1) := by decide +kernel
theorem dL_call_174 : decode cL_call 174 = .ok (.invokevirtual 28, 3) := by decide +kernel
theorem dL_call_177 : decode cL_call 177 = .ok (.ireturn, 1) := by decide +kernel
theorem dL_call_178 : decode cL_call 178 = .ok (.aload_n 0, 1) := by decide +kernel
theorem dL_call_179 : decode cL_call 179 = .ok (.iload_n 2, 1) := by decide +kernel
theorem dL_call_180 : decode cL_call 180 = .ok (.iload_n 3, 1) := by decide +kernel
theorem dL_call_181 : decode cL_call 181 = .ok (.invokevirtual 31, 3) := by decide +kernel
theorem dL_call_184 : decode cL_call 184 = .ok (.ireturn, 1) := by decide +kernel
theorem dL_call_185 : decode cL_call 185 = .ok (.aload_n 0, 1) := by decide +kernel
theorem dL_call_186 : decode cL_call 186 = .ok (.iload_n 2, 1) := by decide +kernel
theorem dL_call_187 : decode cL_call 187 = .ok (.iload_n 3, 1) := by decide +kernel
theorem dL_call_188 : decode cL_call 188 = .ok (.invokevirtual 34, 3) := by decide +kernel
theorem dL_call_191 : decode cL_call 191 = .ok (.ireturn, 1) := by decide +kernel
theorem dL_call_192 : decode cL_call 192 = .ok (.aload_n 0, 1) := by decide +kernel
theorem dL_call_193 : decode cL_call 193 = .ok (.iload_n 2, 1) := by decide +kernel
theorem dL_call_194 : decode cL_call 194 = .ok (.invokevirtual 37, 3) := by decide +kernel
theorem dL_call_197 : decode cL_call 197 = .ok (.ireturn, 1) := by decide +kernel
theorem dL_call_198 : decode cL_call 198 = .ok (.aload_n 0, 1) := by decide +kernel
theorem dL_call_199 : decode cL_call 199 = .ok (.iload_n 2, 1) := by decide +kernel
theorem dL_call_200 : decode cL_call 200 = .ok (.invokevirtual 40, 3) := by decide +kernel
theorem dL_call_203 : decode cL_call 203 = .ok (.ifCond .eq 7, 3) := by decide +kernel
theorem dL_call_206 : decode cL_call 206 = .ok (.iconst 1, 1) := by decide +kernel
theorem dL_call_207 : decode cL_call 207 = .ok (.goto 4, 3) := by decide +kernel
theorem dL_call_210 : decode cL_call 210 = .ok (.iconst 0, 1) := by decide +kernel
theorem dL_call_211 : decode cL_call 211 = .ok (.ireturn, 1) := by decide +kernel
theorem dL_call_212 : decode cL_call 212 = .ok (.aload_n 0, 1) := by decide +kernel
theorem dL_call_213 : decode cL_call 213 = .ok (.iload_n 2, 1) := by decide +kernel
theorem dL_call_214 : decode cL_call 214 = .ok (.invokevirtual 44, 3) := by decide +kernel
theorem dL_call_217 : decode cL_call 217 = .ok (.ifCond .eq 7, 3) := by decide +kernel
theorem dL_call_220 : decode cL_call 220 = .ok (.iconst 1, 1) := by decide +kernel
theorem dL_call_221 : decode cL_call 221 = .ok (.goto 4, 3) := by decide +kernel
theorem dL_call_224 : decode cL_call 224 = .ok (.iconst 0, 1) := by decide +kernel
theorem dL_call_225 : decode cL_call 225 = .ok (.ireturn, 1) := by decide +kernel
theorem dL_call_226 : decode cL_call 226 = .ok (.aload_n 0, 1) := by decide +kernel
theorem dL_call_227 : decode cL_call 227 = .ok (.iload_n 2, 1) := by decide +kernel
theorem dL_call_228 : decode cL_call 228 = .ok (.invokevirtual 47, 3) := by decide +kernel
theorem dL_call_231 : decode cL_call 231 = .ok (.ireturn, 1) := by decide +kernel
theorem dL_call_232 : decode cL_call 232 = .ok (.aload_n 0, 1) := by decide +kernel
theorem dL_call_233 : decode cL_call 233 = .ok (.iload_n 2, 1) := by decide +kernel
theorem dL_call_234 : decode cL_call 234 = .ok (.invokevirtual 50, 3) := by decide +kernel
theorem dL_call_237 : decode cL_call 237 = .ok (.ireturn, 1) := by decide +kernel
theorem dL_call_238 : decode cL_call 238 = .ok (.aload_n 0, 1) := by decide +kernel
theorem dL_call_239 : decode cL_call 239 = .ok (.iload_n 2, 1) := by decide +kernel
theorem dL_call_240 : decode cL_call 240 = .ok (.iload_n 3, 1) := by decide +kernel
theorem dL_call_241 : decode cL_call 241 = .ok (.invokevirtual 53, 3) := by decide +kernel
theorem dL_call_244 : decode cL_call 244 = .ok (.ifCond .eq 7, 3) := by decide +kernel
theorem dL_call_247 : decode cL_call 247 = .ok (.iconst 1, 1) := by decide +kernel
theorem dL_call_248 : decode cL_call 248 = .ok (.goto 4, 3) := by decide +kernel
theorem dL_call_251 : decode cL_call 251 = .ok (.iconst 0, 1) := by decide +kernel
theorem dL_call_252 : decode cL_call 252 = .ok (.ireturn, 1) := by decide +kernel
theorem dL_call_253 : decode cL_call 253 = .ok (.aload_n 0, 1) := by decide +kernel
theorem dL_call_254 : decode cL_call 254 = .ok (.iload_n 2, 1) := by decide +kernel
theorem dL_call_255 : decode cL_call 255 = .ok (.invokevirtual 57, 3) := by decide +kernel
theorem dL_call_258 : decode cL_call 258 = .ok (.ireturn, 1) := by decide +kernel
theorem dL_call_259 : decode cL_call 259 = .ok (.aload_n 0, 1) := by decide +kernel
theorem dL_call_260 : decode cL_call 260 = .ok (.iload_n 2, 1) := by decide +kernel
theorem dL_call_261 : decode cL_call 261 = .ok (.iload_n 3, 1) := by decide +kernel
theorem dL_call_262 : decode cL_call 262 = .ok (.invokevirtual 60, 3) := by decide +kernel
theorem dL_call_265 : decode cL_call 265 = .ok (.ireturn, 1) := by decide +kernel
theorem dL_call_266 : decode cL_call 266 = .ok (.aload_n 0, 1) := by decide +kernel
theorem dL_call_267 : decode cL_call 267 = .ok (.iload_n 2, 1) := by decide +kernel
theorem dL_call_268 : decode cL_call 268 = .ok (.invokevirtual 63, 3) := by decide +kernel
theorem dL_call_271 : decode cL_call 271 = .ok (.ireturn, 1) := by decide +kernel
theorem dL_call_272 : decode cL_call 272 = .ok (.aload_n 0, 1) := by decide +kernel
theorem dL_call_273 : decode cL_call 273 = .ok (.iload_n 2, 1) := by decide +kernel
theorem dL_call_274 : decode cL_call 274 = .ok (.invokevirtual 66, 3) := by decide +kernel
theorem dL_call_277 : decode cL_call 277 = .ok (.ireturn, 1) := by decide +kernel
theorem dL_call_278 : decode cL_call 278 = .ok (.aload_n 0, 1) := by decide +kernel
theorem dL_call_279 : decode cL_call 279 = .ok (.iload_n 2, 1) := by decide +kernel
theorem dL_call_280 : decode cL_call 280 = .ok (.invokevirtual 69, 3) := by decide +kernel
theorem dL_call_283 : decode cL_call 283 = .ok (.ireturn, 1) := by decide +kernel
theorem dL_call_284 : decode cL_call 284 = .ok (.aload_n 0, 1) := by decide +kernel
theorem dL_call_285 : decode cL_call 285 = .ok (.iload_n 2, 1) := by decide +kernel
theorem dL_call_286 : decode cL_call 286 = .ok (.invokevirtual 72, 3) := by decide +kernel
theorem dL_call_289 : decode cL_call 289 = .ok (.ireturn, 1) := by decide +kernel
theorem dL_call_290 : decode cL_call 290 = .ok (.aload_n 0, 1) := by decide +kernel
theorem dL_call_291 : decode cL_call 291 = .ok (.iload_n 2, 1) := by decide +kernel
theorem dL_call_292 : decode cL_call 292 = .ok (.invokevirtual 75, 3) := by decide +kernel
theorem dL_call_295 : decode cL_call 295 = .ok (.ireturn, 1) := by decide +kernel
theorem dL_call_296 : decode cL_call 296 = .ok (.aload_n 0, 1) := by decide +kernel
theorem dL_call_297 : decode cL_call 297 = .ok (.iload_n 2, 1) := by decide +kernel
theorem dL_call_298 : decode cL_call 298 = .ok (.invokevirtual 79, 3) := by decide +kernel
theorem dL_call_301 : decode cL_call 301 = .ok (.ireturn, 1) := by decide +kernel
theorem dL_call_302 : decode cL_call 302 = .ok (.aload_n 0, 1) := by decide +kernel
theorem dL_call_303 : decode cL_call 303 = .ok (.iload_n 2, 1) := by decide +kernel
theorem dL_call_304 : decode cL_call 304 = .ok (.iload_n 3, 1) := by decide +kernel
theorem dL_call_305 : decode cL_call 305 = .ok (.invokevirtual 82, 3) := by decide +kernel
theorem dL_call_308 : decode cL_call 308 = .ok (.ireturn, 1) := by decide +kernel
theorem dL_call_309 : decode cL_call 309 = .ok (.aload_n 0, 1) := by decide +kernel
theorem dL_call_310 : decode cL_call 310 = .ok (.iload_n 2, 1) := by decide +kernel
theorem dL_call_311 : decode cL_call 311 = .ok (.iload_n 3, 1) := by decide +kernel
theorem dL_call_312 : decode cL_call 312 = .ok (.invokevirtual 85, 3) := by decide +kernel
theorem dL_call_315 : decode cL_call 315 = .ok (.ireturn, 1) := by decide +kernel
theorem dL_call_316 : decode cL_call 316 = .ok (.aload_n 0, 1) := by decide +kernel
theorem dL_call_317 : decode cL_call 317 = .ok (.iload_n 2, 1) := by decide +kernel
theorem dL_call_318 : decode cL_call 318 = .ok (.invokevirtual 88, 3) := by decide +kernel
theorem dL_call_321 : decode cL_call 321 = .ok (.ireturn, 1) := by decide +kernel
theorem dL_call_322 : decode cL_call 322 = .ok (.aload_n 0, 1) := by decide +kernel
theorem dL_call_323 : decode cL_call 323 = .ok (.iload_n 2, 1) := by decide +kernel
theorem dL_call_324 : decode cL_call 324 = .ok (.invokevirtual 91, 3) := by decide +kernel
theorem dL_call_327 : decode cL_call 327 = .ok (.ireturn, 1) := by decide +kernel
theorem dL_call_328 : decode cL_call 328 = .ok (.aload_n 0, 1) := by decide +kernel
theorem dL_call_329 : decode cL_call 329 = .ok (.iload_n 2, 1) := by decide +kernel
theorem dL_call_330 : decode cL_call 330 = .ok (.invokevirtual 94, 3) := by decide +kernel
theorem dL_call_333 : decode cL_call 333 = .ok (.ireturn, 1) := by decide +kernel
theorem dL_call_334 : decode cL_call 334 = .ok (.aload_n 0, 1) := by decide +kernel
theorem dL_call_335 : decode cL_call 335 = .ok (.iload_n 2, 1) := by decide +kernel
theorem dL_call_336 : decode cL_call 336 = .ok (.invokevirtual 97, 3) := by decide +kernel
theorem dL_call_339 : decode cL_call 339 = .ok (.ireturn, 1) := by decide +kernel
theorem dL_call_340 : decode cL_call 340 = .ok (.aload_n 0, 1) := by decide +kernel
theorem dL_call_341 : decode cL_call 341 = .ok (.iload_n 2, 1) := by decide +kernel
theorem dL_call_342 : decode cL_call 342 = .ok (.invokevirtual 100, 3) := by decide +kernel
theorem dL_call_345 : decode cL_call 345 = .ok (.ireturn, 1) := by decide +kernel
theorem dL_call_346 : decode cL_call 346 = .ok (.aload_n 0, 1) := by decide +kernel
theorem dL_call_347 : decode cL_call 347 = .ok (.iload_n 2, 1) := by decide +kernel
theorem dL_call_348 : decode cL_call 348 = .ok (.invokevirtual 103, 3) := by decide +kernel
theorem dL_call_351 : decode cL_call 351 = .ok (.ireturn, 1) := by decide +kernel
theorem dL_call_352 : decode cL_call 352 = .ok (.aload_n 0, 1) := by decide +kernel
theorem dL_call_353 : decode cL_call 353 = .ok (.iload_n 2, 1) := by decide +kernel
theorem dL_call_354 : decode cL_call 354 = .ok (.invokevirtual 106, 3) := by decide +kernel
theorem dL_call_357 : decode cL_call 357 = .ok (.ifCond .eq 7, 3) := by decide +kernel
theorem dL_call_360 : decode cL_call 360 = .ok (.iconst 1, 1) := by decide +kernel
theorem dL_call_361 : decode cL_call 361 = .ok (.goto 4, 3) := by decide +kernel
theorem dL_call_364 : decode cL_call 364 = .ok (.iconst 0, 1) := by decide +kernel
theorem dL_call_365 : decode cL_call 365 = .ok (.ireturn, 1) := by decide +kernel
theorem dL_call_366 : decode cL_call 366 = .ok (.aload_n 0, 1) := by decide +kernel
theorem dL_call_367 : decode cL_call 367 = .ok (.iload_n 2, 1) := by decide +kernel
theorem dL_call_368 : decode cL_call 368 = .ok (.iload_n 3, 1) := by decide +kernel
theorem dL_call_369 : decode cL_call 369 = .ok (.invokevirtual 109, 3) := by decide +kernel
theorem dL_call_372 : decode cL_call 372 = .ok (.ireturn, 1) := by decide +kernel
theorem dL_call_373 : decode cL_call 373 = .ok (.astore 4, 2) := by decide +kernel
theorem dL_call_375 : decode cL_call 375 = .ok (.bipush (-101), 2) := by decide +kernel
theorem dL_call_377 : decode cL_call 377 = .ok (.ireturn, 1) := by decide +kernel
theorem dL_call_378 : decode cL_call 378 = .ok (.astore 4, 2) := by decide +kernel
theorem dL_call_380 : decode cL_call 380 = .ok (.bipush (-102), 2) := by decide +kernel
theorem dL_call_382 : decode cL_call 382 = .ok (.ireturn, 1) := by decide +kernel
theorem dL_call_383 : decode cL_call 383 = .ok (.astore 4, 2) := by decide +kernel
theorem dL_call_385 : decode cL_call 385 = .ok (.bipush (-103), 2) := by decide +kernel
theorem dL_call_387 : decode cL_call 387 = .ok (.ireturn, 1) := by decide +kernel
theorem dL_call_388 : decode cL_call 388 = .ok (.astore 4, 2) := by decide +kernel
theorem dL_call_390 : decode cL_call 390 = .ok (.bipush (-104), 2) := by decide +kernel
theorem dL_call_392 : decode cL_call 392 = .ok (.ireturn, 1) := by decide +kernel
theorem dL_call_393 : decode cL_call 393 = .ok (.astore 4, 2) := by decide +kernel
theorem dL_call_395 : decode cL_call 395 = .ok (.bipush (-105), 2) := by decide +kernel
theorem dL_call_397 : decode cL_call 397 = .ok (.ireturn, 1) := by decide +kernel
theorem dL_file_0 : decode cL_file 0 = .ok (.iload_n 3, 1) := by decide +kernel
theorem dL_file_1 : decode cL_file 1 = .ok (.sipush 19683, 3) := by decide +kernel
theorem dL_file_4 : decode cL_file 4 = .ok (.idiv, 1) := by decide +kernel
theorem dL_file_5 : decode cL_file 5 = .ok (.invokestatic 127, 3) := by decide +kernel
theorem dL_file_8 : decode cL_file 8 = .ok (.istore 4, 2) := by decide +kernel
theorem dL_file_10 : decode cL_file 10 = .ok (.iload_n 3, 1) := by decide +kernel
theorem dL_file_11 : decode cL_file 11 = .ok (.sipush 729, 3) := by decide +kernel
theorem dL_file_14 : decode cL_file 14 = .ok (.idiv, 1) := by decide +kernel
theorem dL_file_15 : decode cL_file 15 = .ok (.bipush 27, 2) := by decide +kernel
theorem dL_file_17 : decode cL_file 17 = .ok (.irem, 1) := by decide +kernel
theorem dL_file_18 : decode cL_file 18 = .ok (.invokestatic 127, 3) := by decide +kernel
theorem dL_file_21 : decode cL_file 21 = .ok (.istore 5, 2) := by decide +kernel
theorem dL_file_23 : decode cL_file 23 = .ok (.iload_n 3, 1) := by decide +kernel
theorem dL_file_24 : decode cL_file 24 = .ok (.bipush 27, 2) := by decide +kernel
theorem dL_file_26 : decode cL_file 26 = .ok (.idiv, 1) := by decide +kernel
theorem dL_file_27 : decode cL_file 27 = .ok (.bipush 27, 2) := by decide +kernel
theorem dL_file_29 : decode cL_file 29 = .ok (.irem, 1) := by decide +kernel
theorem dL_file_30 : decode cL_file 30 = .ok (.invokestatic 127, 3) := by decide +kernel
theorem dL_file_33 : decode cL_file 33 = .ok (.istore 6, 2) := by decide +kernel
theorem dL_file_35 : decode cL_file 35 = .ok (.iload_n 3, 1) := by decide +kernel
theorem dL_file_36 : decode cL_file 36 = .ok (.bipush 27, 2) := by decide +kernel
theorem dL_file_38 : decode cL_file 38 = .ok (.irem, 1) := by decide +kernel
theorem dL_file_39 : decode cL_file 39 = .ok (.invokestatic 127, 3) := by decide +kernel
theorem dL_file_42 : decode cL_file 42 = .ok (.istore 7, 2) := by decide +kernel
theorem dL_file_44 : decode cL_file 44 = .ok (.iload_n 1, 1) := by decide +kernel
theorem dL_file_45 : decode cL_file 45 = .ok (.ifCond .ge 19, 3) := by decide +kernel
theorem dL_file_48 : decode cL_file 48 = .ok (.aload_n 0, 1) := by decide +kernel
theorem dL_file_49 : decode cL_file 49 = .ok (.iload_n 2, 1) := by decide +kernel
theorem dL_file_50 : decode cL_file 50 = .ok (.iload 4, 2) := by decide +kernel
theorem dL_file_52 : decode cL_file 52 = .ok (.iload 5, 2) := by decide +kernel
theorem dL_file_54 : decode cL_file 54 = .ok (.iload 6, 2) := by decide +kernel
theorem dL_file_56 : decode cL_file 56 = .ok (.iload 7, 2) := by decide +kernel
theorem dL_file_58 : decode cL_file 58 = .ok (.invokevirtual 130, 3) := by decide +kernel
theorem dL_file_61 : decode cL_file 61 = .ok (.goto 17, 3) := by decide +kernel
theorem dL_file_64 : decode cL_file 64 = .ok (.aload_n 0, 1) := by decide +kernel
theorem dL_file_65 : decode cL_file 65 = .ok (.iload_n 1, 1) := by decide +kernel
theorem dL_file_66 : decode cL_file 66 = .ok (.iload_n 2, 1) := by decide +kernel
theorem dL_file_67 : decode cL_file 67 = .ok (.iload 4, 2) := by decide +kernel
theorem dL_file_69 : decode cL_file 69 = .ok (.iload 5, 2) := by decide +kernel
theorem dL_file_71 : decode cL_file 71 = .ok (.iload 6, 2) := by decide +kernel
theorem dL_file_73 : decode cL_file 73 = .ok (.iload 7, 2) := by decide +kernel
theorem dL_file_75 : decode cL_file 75 = .ok (.invokevirtual 134, 3) := by decide +kernel
theorem dL_file_78 : decode cL_file 78 = .ok (.ireturn, 1) := by decide +kernel
theorem dL_file_79 : decode cL_file 79 = .ok (.astore 8, 2) := by decide +kernel
theorem dL_file_81 : decode cL_file 81 = .ok (.bipush (-101), 2) := by decide +kernel
theorem dL_file_83 : decode cL_file 83 = .ok (.ireturn, 1) := by decide +kernel
theorem dL_file_84 : decode cL_file 84 = .ok (.astore 8, 2) := by decide +kernel
theorem dL_file_86 : decode cL_file 86 = .ok (.bipush (-102), 2) := by decide +kernel
theorem dL_file_88 : decode cL_file 88 = .ok (.ireturn, 1) := by decide +kernel
theorem dL_file_89 : decode cL_file 89 = .ok (.astore 8, 2) := by decide +kernel
theorem dL_file_91 : decode cL_file 91 = .ok (.bipush (-103), 2) := by decide +kernel
theorem dL_file_93 : decode cL_file 93 = .ok (.ireturn, 1) := by decide +kernel
theorem dL_letter_0 : decode cL_letter 0 = .ok (.iload_n 0, 1) := by decide +kernel
theorem dL_letter_1 : decode cL_letter 1 = .ok (.ifCond .ne 8, 3) := by decide +kernel
theorem dL_letter_4 : decode cL_letter 4 = .ok (.bipush 32, 2) := by decide +kernel
theorem dL_letter_6 : decode cL_letter 6 = .ok (.goto 10, 3) := by decide +kernel
theorem dL_letter_9 : decode cL_letter 9 = .ok (.bipush 97, 2) := by decide +kernel
theorem dL_letter_11 : decode cL_letter 11 = .ok (.iload_n 0, 1) := by decide +kernel
theorem dL_letter_12 : decode cL_letter 12 = .ok (.iadd, 1) := by decide +kernel
theorem dL_letter_13 : decode cL_letter 13 = .ok (.iconst 1, 1) := by decide +kernel
theorem dL_letter_14 : decode cL_letter 14 = .ok (.isub, 1) := by decide +kernel
theorem dL_letter_15 : decode cL_letter 15 = .ok (.i2c, 1) := by decide +kernel
theorem dL_letter_16 : decode cL_letter 16 = .ok (.ireturn, 1) := by decide +kernel
theorem dL_name_0 : decode cL_name 0 = .ok (.iconst 1, 1) := by decide +kernel
theorem dL_name_1 : decode cL_name 1 = .ok (.iload_n 0, 1) := by decide +kernel
theorem dL_name_2 : decode cL_name 2 = .ok (.iconst 3, 1) := by decide +kernel
theorem dL_name_3 : decode cL_name 3 = .ok (.ishr, 1) := by decide +kernel
theorem dL_name_4 : decode cL_name 4 = .ok (.iconst 4, 1) := by decide +kernel
theorem dL_name_5 : decode cL_name 5 = .ok (.invokestatic 138, 3) := by decide +kernel
theorem dL_name_8 : decode cL_name 8 = .ok (.iadd, 1) := by decide +kernel
theorem dL_name_9 : decode cL_name 9 = .ok (.istore_n 1, 1) := by decide +kernel
theorem dL_name_10 : decode cL_name 10 = .ok (.iconst 0, 1) := by decide +kernel
theorem dL_name_11 : decode cL_name 11 = .ok (.istore_n 2, 1) := by decide +kernel
theorem dL_name_12 : decode cL_name 12 = .ok (.iconst 0, 1) := by decide +kernel
theorem dL_name_13 : decode cL_name 13 = .ok (.istore_n 3, 1) := by decide +kernel
theorem dL_name_14 : decode cL_name 14 = .ok (.iload_n 3, 1) := by decide +kernel
theorem dL_name_15 : decode cL_name 15 = .ok (.iconst 4, 1) := by decide +kernel
theorem dL_name_16 : decode cL_name 16 = .ok (.if_icmp .ge 48, 3) := by decide +kernel
theorem dL_name_19 : decode cL_name 19 = .ok (.bipush 27, 2) := by decide +kernel
theorem dL_name_21 : decode cL_name 21 = .ok (.iload_n 2, 1) := by decide +kernel
theorem dL_name_22 : decode cL_name 22 = .ok (.imul, 1) := by decide +kernel
theorem dL_name_23 : decode cL_name 23 = .ok (.iload_n 3, 1) := by decide +kernel
theorem dL_name_24 : decode cL_name 24 = .ok (.iload_n 1, 1) := by decide +kernel
theorem dL_name_25 : decode cL_name 25 = .ok (.if_icmp .ge 30, 3) := by decide +kernel
theorem dL_name_28 : decode cL_name 28 = .ok (.iconst 1, 1) := by decide +kernel
theorem dL_name_29 : decode cL_name 29 = .ok (.iload_n 0, 1) := by decide +kernel
theorem dL_name_30 : decode cL_name 30 = .ok (.iconst 5, 1) := by decide +kernel
theorem dL_name_31 : decode cL_name 31 = .ok (.iconst 3, 1) := by decide +kernel
theorem dL_name_32 : decode cL_name 32 = .ok (.iload_n 3, 1) := by decide +kernel
theorem dL_name_33 : decode cL_name 33 = .ok (.imul, 1) := by decide +kernel
theorem dL_name_34 : decode cL_name 34 = .ok (.iadd, 1) := by decide +kernel
theorem dL_name_35 : decode cL_name 35 = .ok (.ishr, 1) := by decide +kernel
theorem dL_name_36 : decode cL_name 36 = .ok (.iload_n 0, 1) := by decide +kernel
theorem dL_name_37 : decode cL_name 37 = .ok (.iconst 4, 1) := by decide +kernel
theorem dL_name_38 : decode cL_name 38 = .ok (.iand, 1) := by decide +kernel
theorem dL_name_39 : decode cL_name 39 = .ok (.ifCond .ne 8, 3) := by decide +kernel
theorem dL_name_42 : decode cL_name 42 = .ok (.bipush 26, 2) := by decide +kernel
theorem dL_name_44 : decode cL_name 44 = .ok (.goto 4, 3) := by decide +kernel
theorem dL_name_47 : decode cL_name 47 = .ok (.iconst 3, 1) := by decide +kernel
theorem dL_name_48 : decode cL_name 48 = .ok (.invokestatic 138, 3) := by decide +kernel
theorem dL_name_51 : decode cL_name 51 = .ok (.iadd, 1) := by decide +kernel
theorem dL_name_52 : decode cL_name 52 = .ok (.goto 4, 3) := by decide +kernel
theorem dL_name_55 : decode cL_name 55 = .ok (.iconst 0, 1) := by decide +kernel
theorem dL_name_56 : decode cL_name 56 = .ok (.iadd, 1) := by decide +kernel
theorem dL_name_57 : decode cL_name 57 = .ok (.istore_n 2, 1) := by decide +kernel
theorem dL_name_58 : decode cL_name 58 = .ok (.iinc 3 1, 3) := by decide +kernel
theorem dL_name_61 : decode cL_name 61 = .ok (.goto (-47), 3) := by decide +kernel
theorem dL_name_64 : decode cL_name 64 = .ok (.iload_n 2, 1) := by decide +kernel
theorem dL_name_65 : decode cL_name 65 = .ok (.ireturn, 1) := by decide +kernel
theorem dL_state_0 : decode cL_state 0 = .ok (.ldc2_w 141, 3) := by decide +kernel
theorem dL_state_3 : decode cL_state 3 = .ok (.lstore_n 2, 1) := by decide +kernel
theorem dL_state_4 : decode cL_state 4 = .ok (.iconst 0, 1) := by decide +kernel
theorem dL_state_5 : decode cL_state 5 = .ok (.istore 4, 2) := by decide +kernel
theorem dL_state_7 : decode cL_state 7 = .ok (.iload 4, 2) := by decide +kernel
theorem dL_state_9 : decode cL_state 9 = .ok (.aload_n 0, 1) := by decide +kernel
theorem dL_state_10 : decode cL_state 10 = .ok (.invokevirtual 143, 3) := by decide +kernel
theorem dL_state_13 : decode cL_state 13 = .ok (.if_icmp .ge 136, 3) := by decide +kernel
theorem dL_state_16 : decode cL_state 16 = .ok (.ldc2_w 147, 3) := by decide +kernel
theorem dL_state_19 : decode cL_state 19 = .ok (.ldc2_w 147, 3) := by decide +kernel
theorem dL_state_22 : decode cL_state 22 = .ok (.ldc2_w 147, 3) := by decide +kernel
theorem dL_state_25 : decode cL_state 25 = .ok (.lload_n 2, 1) := by decide +kernel
theorem dL_state_26 : decode cL_state 26 = .ok (.lmul, 1) := by decide +kernel
theorem dL_state_27 : decode cL_state 27 = .ok (.aload_n 0, 1) := by decide +kernel
theorem dL_state_28 : decode cL_state 28 = .ok (.bipush 17, 2) := by decide +kernel
theorem dL_state_30 : decode cL_state 30 = .ok (.iload 4, 2) := by decide +kernel
theorem dL_state_32 : decode cL_state 32 = .ok (.iconst 0, 1) := by decide +kernel
theorem dL_state_33 : decode cL_state 33 = .ok (.invokestatic 149, 3) := by decide +kernel
theorem dL_state_36 : decode cL_state 36 = .ok (.i2l, 1) := by decide +kernel
theorem dL_state_37 : decode cL_state 37 = .ok (.ladd, 1) := by decide +kernel
theorem dL_state_38 : decode cL_state 38 = .ok (.lmul, 1) := by decide +kernel
theorem dL_state_39 : decode cL_state 39 = .ok (.aload_n 0, 1) := by decide +kernel
theorem dL_state_40 : decode cL_state 40 = .ok (.bipush 28, 2) := by decide +kernel
theorem dL_state_42 : decode cL_state 42 = .ok (.iload 4, 2) := by decide +kernel
theorem dL_state_44 : decode cL_state 44 = .ok (.iconst 0, 1) := by decide +kernel
theorem dL_state_45 : decode cL_state 45 = .ok (.invokestatic 149, 3) := by decide +kernel
theorem dL_state_48 : decode cL_state 48 = .ok (.i2l, 1) := by decide +kernel
theorem dL_state_49 : decode cL_state 49 = .ok (.ladd, 1) := by decide +kernel
theorem dL_state_50 : decode cL_state 50 = .ok (.lmul, 1) := by decide +kernel
theorem dL_state_51 : decode cL_state 51 = .ok (.aload_n 0, 1) := by decide +kernel
theorem dL_state_52 : decode cL_state 52 = .ok (.bipush 27, 2) := by decide +kernel
theorem dL_state_54 : decode cL_state 54 = .ok (.iload 4, 2) := by decide +kernel
theorem dL_state_56 : decode cL_state 56 = .ok (.iconst 0, 1) := by decide +kernel
theorem dL_state_57 : decode cL_state 57 = .ok (.invokestatic 149, 3) := by decide +kernel
theorem dL_state_60 : decode cL_state 60 = .ok (.i2l, 1) := by decide +kernel
theorem dL_state_61 : decode cL_state 61 = .ok (.ladd, 1) := by decide +kernel
theorem dL_state_62 : decode cL_state 62 = .ok (.lstore_n 2, 1) := by decide +kernel
theorem dL_state_63 : decode cL_state 63 = .ok (.ldc2_w 147, 3) := by decide +kernel
theorem dL_state_66 : decode cL_state 66 = .ok (.ldc2_w 147, 3) := by decide +kernel
theorem dL_state_69 : decode cL_state 69 = .ok (.ldc2_w 147, 3) := by decide +kernel
theorem dL_state_72 : decode cL_state 72 = .ok (.lload_n 2, 1) := by decide +kernel
theorem dL_state_73 : decode cL_state 73 = .ok (.lmul, 1) := by decide +kernel
theorem dL_state_74 : decode cL_state 74 = .ok (.aload_n 0, 1) := by decide +kernel
theorem dL_state_75 : decode cL_state 75 = .ok (.bipush 11, 2) := by decide +kernel
theorem dL_state_77 : decode cL_state 77 = .ok (.iload 4, 2) := by decide +kernel
theorem dL_state_79 : decode cL_state 79 = .ok (.iconst 0, 1) := by decide +kernel
theorem dL_state_80 : decode cL_state 80 = .ok (.invokestatic 149, 3) := by decide +kernel
theorem dL_state_83 : decode cL_state 83 = .ok (.i2l, 1) := by decide +kernel
theorem dL_state_84 : decode cL_state 84 = .ok (.ladd, 1) := by decide +kernel
theorem dL_state_85 : decode cL_state 85 = .ok (.lmul, 1) := by decide +kernel
theorem dL_state_86 : decode cL_state 86 = .ok (.aload_n 0, 1) := by decide +kernel
theorem dL_state_87 : decode cL_state 87 = .ok (.bipush 25, 2) := by decide +kernel
theorem dL_state_89 : decode cL_state 89 = .ok (.iload 4, 2) := by decide +kernel
theorem dL_state_91 : decode cL_state 91 = .ok (.iconst 0, 1) := by decide +kernel
theorem dL_state_92 : decode cL_state 92 = .ok (.invokestatic 149, 3) := by decide +kernel
theorem dL_state_95 : decode cL_state 95 = .ok (.i2l, 1) := by decide +kernel
theorem dL_state_96 : decode cL_state 96 = .ok (.ladd, 1) := by decide +kernel
theorem dL_state_97 : decode cL_state 97 = .ok (.lmul, 1) := by decide +kernel
theorem dL_state_98 : decode cL_state 98 = .ok (.aload_n 0, 1) := by decide +kernel
theorem dL_state_99 : decode cL_state 99 = .ok (.bipush 10, 2) := by decide +kernel
theorem dL_state_101 : decode cL_state 101 = .ok (.iload 4, 2) := by decide +kernel
theorem dL_state_103 : decode cL_state 103 = .ok (.iconst 0, 1) := by decide +kernel
theorem dL_state_104 : decode cL_state 104 = .ok (.invokestatic 149, 3) := by decide +kernel
theorem dL_state_107 : decode cL_state 107 = .ok (.i2l, 1) := by decide +kernel
theorem dL_state_108 : decode cL_state 108 = .ok (.ladd, 1) := by decide +kernel
theorem dL_state_109 : decode cL_state 109 = .ok (.lstore_n 2, 1) := by decide +kernel
theorem dL_state_110 : decode cL_state 110 = .ok (.iconst 0, 1) := by decide +kernel
theorem dL_state_111 : decode cL_state 111 = .ok (.istore 5, 2) := by decide +kernel
theorem dL_state_113 : decode cL_state 113 = .ok (.iload 5, 2) := by decide +kernel
theorem dL_state_115 : decode cL_state 115 = .ok (.iconst 4, 1) := by decide +kernel
theorem dL_state_116 : decode cL_state 116 = .ok (.if_icmp .ge 27, 3) := by decide +kernel
theorem dL_state_119 : decode cL_state 119 = .ok (.ldc2_w 147, 3) := by decide +kernel
theorem dL_state_122 : decode cL_state 122 = .ok (.lload_n 2, 1) := by decide +kernel
theorem dL_state_123 : decode cL_state 123 = .ok (.lmul, 1) := by decide +kernel
theorem dL_state_124 : decode cL_state 124 = .ok (.aload_n 0, 1) := by decide +kernel
theorem dL_state_125 : decode cL_state 125 = .ok (.bipush 31, 2) := by decide +kernel
theorem dL_state_127 : decode cL_state 127 = .ok (.iload 4, 2) := by decide +kernel
theorem dL_state_129 : decode cL_state 129 = .ok (.iload 5, 2) := by decide +kernel
theorem dL_state_131 : decode cL_state 131 = .ok (.invokestatic 149, 3) := by decide +kernel
theorem dL_state_134 : decode cL_state 134 = .ok (.i2l, 1) := by decide +kernel
theorem dL_state_135 : decode cL_state 135 = .ok (.ladd, 1) := by decide +kernel
theorem dL_state_136 : decode cL_state 136 = .ok (.lstore_n 2, 1) := by decide +kernel
theorem dL_state_137 : decode cL_state 137 = .ok (.iinc 5 1, 3) := by decide +kernel
theorem dL_state_140 : decode cL_state 140 = .ok (.goto (-27), 3) := by decide +kernel
theorem dL_state_143 : decode cL_state 143 = .ok (.iinc 4 1, 3) := by decide +kernel
theorem dL_state_146 : decode cL_state 146 = .ok (.goto (-139), 3) := by decide +kernel
theorem dL_state_149 : decode cL_state 149 = .ok (.iconst 0, 1) := by decide +kernel
theorem dL_state_150 : decode cL_state 150 = .ok (.istore 4, 2) := by decide +kernel
theorem dL_state_152 : decode cL_state 152 = .ok (.iload 4, 2) := by decide +kernel
theorem dL_state_154 : decode cL_state 154 = .ok (.iload_n 1, 1) := by decide +kernel
theorem dL_state_155 : decode cL_state 155 = .ok (.if_icmp .ge 41, 3) := by decide +kernel
theorem dL_state_158 : decode cL_state 158 = .ok (.ldc2_w 147, 3) := by decide +kernel
theorem dL_state_161 : decode cL_state 161 = .ok (.ldc2_w 147, 3) := by decide +kernel
theorem dL_state_164 : decode cL_state 164 = .ok (.lload_n 2, 1) := by decide +kernel
theorem dL_state_165 : decode cL_state 165 = .ok (.lmul, 1) := by decide +kernel
theorem dL_state_166 : decode cL_state 166 = .ok (.aload_n 0, 1) := by decide +kernel
theorem dL_state_167 : decode cL_state 167 = .ok (.bipush 29, 2) := by decide +kernel
theorem dL_state_169 : decode cL_state 169 = .ok (.iload 4, 2) := by decide +kernel
theorem dL_state_171 : decode cL_state 171 = .ok (.iconst 0, 1) := by decide +kernel
theorem dL_state_172 : decode cL_state 172 = .ok (.invokestatic 149, 3) := by decide +kernel
theorem dL_state_175 : decode cL_state 175 = .ok (.i2l, 1) := by decide +kernel
theorem dL_state_176 : decode cL_state 176 = .ok (.ladd, 1) := by decide +kernel
theorem dL_state_177 : decode cL_state 177 = .ok (.lmul, 1) := by decide +kernel
theorem dL_state_178 : decode cL_state 178 = .ok (.aload_n 0, 1) := by decide +kernel
theorem dL_state_179 : decode cL_state 179 = .ok (.bipush 30, 2) := by decide +kernel
theorem dL_state_181 : decode cL_state 181 = .ok (.iload 4, 2) := by decide +kernel
theorem dL_state_183 : decode cL_state 183 = .ok (.iconst 0, 1) := by decide +kernel
theorem dL_state_184 : decode cL_state 184 = .ok (.invokestatic 149, 3) := by decide +kernel
theorem dL_state_187 : decode cL_state 187 = .ok (.i2l, 1) := by decide +kernel
theorem dL_state_188 : decode cL_state 188 = .ok (.ladd, 1) := by decide +kernel
theorem dL_state_189 : decode cL_state 189 = .ok (.lstore_n 2, 1) := by decide +kernel
theorem dL_state_190 : decode cL_state 190 = .ok (.iinc 4 1, 3) := by decide +kernel
theorem dL_state_193 : decode cL_state 193 = .ok (.goto (-41), 3) := by decide +kernel
theorem dL_state_196 : decode cL_state 196 = .ok (.iconst 0, 1) := by decide +kernel
theorem dL_state_197 : decode cL_state 197 = .ok (.istore 4, 2) := by decide +kernel
theorem dL_state_199 : decode cL_state 199 = .ok (.iload 4, 2) := by decide +kernel
theorem dL_state_201 : decode cL_state 201 = .ok (.aload_n 0, 1) := by decide +kernel
theorem dL_state_202 : decode cL_state 202 = .ok (.invokevirtual 153, 3) := by decide +kernel
theorem dL_state_205 : decode cL_state 205 = .ok (.if_icmp .ge 26, 3) := by decide +kernel
theorem dL_state_208 : decode cL_state 208 = .ok (.ldc2_w 147, 3) := by decide +kernel
theorem dL_state_211 : decode cL_state 211 = .ok (.lload_n 2, 1) := by decide +kernel
theorem dL_state_212 : decode cL_state 212 = .ok (.lmul, 1) := by decide +kernel
theorem dL_state_213 : decode cL_state 213 = .ok (.aload_n 0, 1) := by decide +kernel
theorem dL_state_214 : decode cL_state 214 = .ok (.bipush 12, 2) := by decide +kernel
theorem dL_state_216 : decode cL_state 216 = .ok (.iload 4, 2) := by decide +kernel
theorem dL_state_218 : decode cL_state 218 = .ok (.iconst 0, 1) := by decide +kernel
theorem dL_state_219 : decode cL_state 219 = .ok (.invokestatic 149, 3) := by decide +kernel
theorem dL_state_222 : decode cL_state 222 = .ok (.i2l, 1) := by decide +kernel
theorem dL_state_223 : decode cL_state 223 = .ok (.ladd, 1) := by decide +kernel
theorem dL_state_224 : decode cL_state 224 = .ok (.lstore_n 2, 1) := by decide +kernel
theorem dL_state_225 : decode cL_state 225 = .ok (.iinc 4 1, 3) := by decide +kernel
theorem dL_state_228 : decode cL_state 228 = .ok (.goto (-29), 3) := by decide +kernel
theorem dL_state_231 : decode cL_state 231 = .ok (.ldc2_w 147, 3) := by decide +kernel
theorem dL_state_234 : decode cL_state 234 = .ok (.ldc2_w 147, 3) := by decide +kernel
theorem dL_state_237 : decode cL_state 237 = .ok (.ldc2_w 147, 3) := by decide +kernel
theorem dL_state_240 : decode cL_state 240 = .ok (.lload_n 2, 1) := by decide +kernel
theorem dL_state_241 : decode cL_state 241 = .ok (.lmul, 1) := by decide +kernel
theorem dL_state_242 : decode cL_state 242 = .ok (.aload_n 0, 1) := by decide +kernel
theorem dL_state_243 : decode cL_state 243 = .ok (.invokevirtual 156, 3) := by decide +kernel
theorem dL_state_246 : decode cL_state 246 = .ok (.i2l, 1) := by decide +kernel
theorem dL_state_247 : decode cL_state 247 = .ok (.ladd, 1) := by decide +kernel
theorem dL_state_248 : decode cL_state 248 = .ok (.lmul, 1) := by decide +kernel
theorem dL_state_249 : decode cL_state 249 = .ok (.aload_n 0, 1) := by decide +kernel
theorem dL_state_250 : decode cL_state 250 = .ok (.invokevirtual 159, 3) := by decide +kernel
theorem dL_state_253 : decode cL_state 253 = .ok (.i2l, 1) := by decide +kernel
theorem dL_state_254 : decode cL_state 254 = .ok (.ladd, 1) := by decide +kernel
theorem dL_state_255 : decode cL_state 255 = .ok (.lmul, 1) := by decide +kernel
theorem dL_state_256 : decode cL_state 256 = .ok (.aload_n 0, 1) := by decide +kernel
theorem dL_state_257 : decode cL_state 257 = .ok (.invokevirtual 162, 3) := by decide +kernel
theorem dL_state_260 : decode cL_state 260 = .ok (.i2l, 1) := by decide +kernel
theorem dL_state_261 : decode cL_state 261 = .ok (.ladd, 1) := by decide +kernel
theorem dL_state_262 : decode cL_state 262 = .ok (.lreturn, 1) := by decide +kernel
theorem dL_sound_0 : decode cL_sound 0 = .ok (.aload_n 0, 1) := by decide +kernel
theorem dL_sound_1 : decode cL_sound 1 = .ok (.invokevirtual 153, 3) := by decide +kernel
theorem dL_sound_4 : decode cL_sound 4 = .ok (.istore 4, 2) := by decide +kernel
theorem dL_sound_6 : decode cL_sound 6 = .ok (.iconst 0, 1) := by decide +kernel
theorem dL_sound_7 : decode cL_sound 7 = .ok (.istore 5, 2) := by decide +kernel
theorem dL_sound_9 : decode cL_sound 9 = .ok (.iconst 0, 1) := by decide +kernel
theorem dL_sound_10 : decode cL_sound 10 = .ok (.istore 6, 2) := by decide +kernel
theorem dL_sound_12 : decode cL_sound 12 = .ok (.iconst 0, 1) := by decide +kernel
theorem dL_sound_13 : decode cL_sound 13 = .ok (.istore 7, 2) := by decide +kernel
theorem dL_sound_15 : decode cL_sound 15 = .ok (.iconst 0, 1) := by decide +kernel
theorem dL_sound_16 : decode cL_sound 16 = .ok (.istore 8, 2) := by decide +kernel
theorem dL_sound_18 : decode cL_sound 18 = .ok (.iconst 2, 1) := by decide +kernel
theorem dL_sound_19 : decode cL_sound 19 = .ok (.newarray .int, 2) := by decide +kernel
theorem dL_sound_21 : decode cL_sound 21 = .ok (.astore 9, 2) := by decide +kernel
theorem dL_sound_23 : decode cL_sound 23 = .ok (.iconst 0, 1) := by decide +kernel
theorem dL_sound_24 : decode cL_sound 24 = .ok (.istore 10, 2) := by decide +kernel
theorem dL_sound_26 : decode cL_sound 26 = .ok (.iload 10, 2) := by decide +kernel
theorem dL_sound_28 : decode cL_sound 28 = .ok (.iload_n 3, 1) := by decide +kernel
theorem dL_sound_29 : decode cL_sound 29 = .ok (.if_icmp .ge 91, 3) := by decide +kernel
theorem dL_sound_32 : decode cL_sound 32 = .ok (.iconst 0, 1) := by decide +kernel
theorem dL_sound_33 : decode cL_sound 33 = .ok (.istore 11, 2) := by decide +kernel
theorem dL_sound_35 : decode cL_sound 35 = .ok (.bipush (-105), 2) := by decide +kernel
theorem dL_sound_37 : decode cL_sound 37 = .ok (.istore 12, 2) := by decide +kernel
theorem dL_sound_39 : decode cL_sound 39 = .ok (.iconst 0, 1) := by decide +kernel
theorem dL_sound_40 : decode cL_sound 40 = .ok (.istore 13, 2) := by decide +kernel
theorem dL_sound_42 : decode cL_sound 42 = .ok (.iload 13, 2) := by decide +kernel
theorem dL_sound_44 : decode cL_sound 44 = .ok (.iload 4, 2) := by decide +kernel
theorem dL_sound_46 : decode cL_sound 46 = .ok (.if_icmp .ge 39, 3) := by decide +kernel
theorem dL_sound_49 : decode cL_sound 49 = .ok (.aload_n 2, 1) := by decide +kernel
theorem dL_sound_50 : decode cL_sound 50 = .ok (.iload 13, 2) := by decide +kernel
theorem dL_sound_52 : decode cL_sound 52 = .ok (.iaload, 1) := by decide +kernel
theorem dL_sound_53 : decode cL_sound 53 = .ok (.iload 10, 2) := by decide +kernel
theorem dL_sound_55 : decode cL_sound 55 = .ok (.if_icmp .ne 24, 3) := by decide +kernel
theorem dL_sound_58 : decode cL_sound 58 = .ok (.aload_n 0, 1) := by decide +kernel
theorem dL_sound_59 : decode cL_sound 59 = .ok (.bipush 12, 2) := by decide +kernel
theorem dL_sound_61 : decode cL_sound 61 = .ok (.iload 13, 2) := by decide +kernel
theorem dL_sound_63 : decode cL_sound 63 = .ok (.iconst 0, 1) := by decide +kernel
theorem dL_sound_64 : decode cL_sound 64 = .ok (.invokestatic 149, 3) := by decide +kernel
theorem dL_sound_67 : decode cL_sound 67 = .ok (.ifCond .ne 12, 3) := by decide +kernel
theorem dL_sound_70 : decode cL_sound 70 = .ok (.iinc 11 1, 3) := by decide +kernel
theorem dL_sound_73 : decode cL_sound 73 = .ok (.aload_n 1, 1) := by decide +kernel
theorem dL_sound_74 : decode cL_sound 74 = .ok (.iload 13, 2) := by decide +kernel
theorem dL_sound_76 : decode cL_sound 76 = .ok (.iaload, 1) := by decide +kernel
theorem dL_sound_77 : decode cL_sound 77 = .ok (.istore 12, 2) := by decide +kernel
theorem dL_sound_79 : decode cL_sound 79 = .ok (.iinc 13 1, 3) := by decide +kernel
theorem dL_sound_82 : decode cL_sound 82 = .ok (.goto (-40), 3) := by decide +kernel
theorem dL_sound_85 : decode cL_sound 85 = .ok (.iload 5, 2) := by decide +kernel
theorem dL_sound_87 : decode cL_sound 87 = .ok (.iload 11, 2) := by decide +kernel
theorem dL_sound_89 : decode cL_sound 89 = .ok (.iadd, 1) := by decide +kernel
theorem dL_sound_90 : decode cL_sound 90 = .ok (.istore 5, 2) := by decide +kernel
theorem dL_sound_92 : decode cL_sound 92 = .ok (.iload 11, 2) := by decide +kernel
theorem dL_sound_94 : decode cL_sound 94 = .ok (.iconst 1, 1) := by decide +kernel
theorem dL_sound_95 : decode cL_sound 95 = .ok (.if_icmp .gt 17, 3) := by decide +kernel
theorem dL_sound_98 : decode cL_sound 98 = .ok (.aload_n 0, 1) := by decide +kernel
theorem dL_sound_99 : decode cL_sound 99 = .ok (.bipush 14, 2) := by decide +kernel
theorem dL_sound_101 : decode cL_sound 101 = .ok (.iload 10, 2) := by decide +kernel
theorem dL_sound_103 : decode cL_sound 103 = .ok (.iconst 0, 1) := by decide +kernel
theorem dL_sound_104 : decode cL_sound 104 = .ok (.invokestatic 149, 3) := by decide +kernel
theorem dL_sound_107 : decode cL_sound 107 = .ok (.iload 12, 2) := by decide +kernel
theorem dL_sound_109 : decode cL_sound 109 = .ok (.if_icmp .eq 5, 3) := by decide +kernel
theorem dL_sound_112 : decode cL_sound 112 = .ok (.iconst 0, 1) := by decide +kernel
theorem dL_sound_113 : decode cL_sound 113 = .ok (.ireturn, 1) := by decide +kernel
theorem dL_sound_114 : decode cL_sound 114 = .ok (.iinc 10 1, 3) := by decide +kernel
theorem dL_sound_117 : decode cL_sound 117 = .ok (.goto (-91), 3) := by decide +kernel
theorem dL_sound_120 : decode cL_sound 120 = .ok (.iconst 0, 1) := by decide +kernel
theorem dL_sound_121 : decode cL_sound 121 = .ok (.istore 10, 2) := by decide +kernel
theorem dL_sound_123 : decode cL_sound 123 = .ok (.iconst 0, 1) := by decide +kernel
theorem dL_sound_124 : decode cL_sound 124 = .ok (.istore 11, 2) := by decide +kernel
theorem dL_sound_126 : decode cL_sound 126 = .ok (.iload 11, 2) := by decide +kernel
theorem dL_sound_128 : decode cL_sound 128 = .ok (.aload_n 0, 1) := by decide +kernel
theorem dL_sound_129 : decode cL_sound 129 = .ok (.invokevirtual 143, 3) := by decide +kernel
theorem dL_sound_132 : decode cL_sound 132 = .ok (.if_icmp .ge 176, 3) := by decide +kernel
theorem dL_sound_135 : decode cL_sound 135 = .ok (.aload_n 0, 1) := by decide +kernel
theorem dL_sound_136 : decode cL_sound 136 = .ok (.bipush 17, 2) := by decide +kernel
theorem dL_sound_138 : decode cL_sound 138 = .ok (.iload 11, 2) := by decide +kernel
theorem dL_sound_140 : decode cL_sound 140 = .ok (.iconst 0, 1) := by decide +kernel
theorem dL_sound_141 : decode cL_sound 141 = .ok (.invokestatic 149, 3) := by decide +kernel
theorem dL_sound_144 : decode cL_sound 144 = .ok (.istore 12, 2) := by decide +kernel
theorem dL_sound_146 : decode cL_sound 146 = .ok (.aload_n 0, 1) := by decide +kernel
theorem dL_sound_147 : decode cL_sound 147 = .ok (.bipush 27, 2) := by decide +kernel
theorem dL_sound_149 : decode cL_sound 149 = .ok (.iload 11, 2) := by decide +kernel
theorem dL_sound_151 : decode cL_sound 151 = .ok (.iconst 0, 1) := by decide +kernel
theorem dL_sound_152 : decode cL_sound 152 = .ok (.invokestatic 149, 3) := by decide +kernel
theorem dL_sound_155 : decode cL_sound 155 = .ok (.istore 13, 2) := by decide +kernel
theorem dL_sound_157 : decode cL_sound 157 = .ok (.iload 10, 2) := by decide +kernel
theorem dL_sound_159 : decode cL_sound 159 = .ok (.aload_n 0, 1) := by decide +kernel
theorem dL_sound_160 : decode cL_sound 160 = .ok (.bipush 11, 2) := by decide +kernel
theorem dL_sound_162 : decode cL_sound 162 = .ok (.iload 11, 2) := by decide +kernel
theorem dL_sound_164 : decode cL_sound 164 = .ok (.iconst 0, 1) := by decide +kernel
theorem dL_sound_165 : decode cL_sound 165 = .ok (.invokestatic 149, 3) := by decide +kernel
theorem dL_sound_168 : decode cL_sound 168 = .ok (.iadd, 1) := by decide +kernel
theorem dL_sound_169 : decode cL_sound 169 = .ok (.istore 10, 2) := by decide +kernel
theorem dL_sound_171 : decode cL_sound 171 = .ok (.iload 6, 2) := by decide +kernel
theorem dL_sound_173 : decode cL_sound 173 = .ok (.iload 13, 2) := by decide +kernel
theorem dL_sound_175 : decode cL_sound 175 = .ok (.ifCond .ne 15, 3) := by decide +kernel
theorem dL_sound_178 : decode cL_sound 178 = .ok (.aload_n 0, 1) := by decide +kernel
theorem dL_sound_179 : decode cL_sound 179 = .ok (.bipush 28, 2) := by decide +kernel
theorem dL_sound_181 : decode cL_sound 181 = .ok (.iload 11, 2) := by decide +kernel
theorem dL_sound_183 : decode cL_sound 183 = .ok (.iconst 0, 1) := by decide +kernel
theorem dL_sound_184 : decode cL_sound 184 = .ok (.invokestatic 149, 3) := by decide +kernel
theorem dL_sound_187 : decode cL_sound 187 = .ok (.goto 4, 3) := by decide +kernel
theorem dL_sound_190 : decode cL_sound 190 = .ok (.iconst 0, 1) := by decide +kernel
theorem dL_sound_191 : decode cL_sound 191 = .ok (.iadd, 1) := by decide +kernel
theorem dL_sound_192 : decode cL_sound 192 = .ok (.istore 6, 2) := by decide +kernel
theorem dL_sound_194 : decode cL_sound 194 = .ok (.iload 7, 2) := by decide +kernel
theorem dL_sound_196 : decode cL_sound 196 = .ok (.iload 13, 2) := by decide +kernel
theorem dL_sound_198 : decode cL_sound 198 = .ok (.iconst 2, 1) := by decide +kernel
theorem dL_sound_199 : decode cL_sound 199 = .ok (.if_icmp .ne 15, 3) := by decide +kernel
theorem dL_sound_202 : decode cL_sound 202 = .ok (.aload_n 0, 1) := by decide +kernel
theorem dL_sound_203 : decode cL_sound 203 = .ok (.bipush 28, 2) := by decide +kernel
theorem dL_sound_205 : decode cL_sound 205 = .ok (.iload 11, 2) := by decide +kernel
theorem dL_sound_207 : decode cL_sound 207 = .ok (.iconst 0, 1) := by decide +kernel
theorem dL_sound_208 : decode cL_sound 208 = .ok (.invokestatic 149, 3) := by decide +kernel
theorem dL_sound_211 : decode cL_sound 211 = .ok (.goto 4, 3) := by decide +kernel
theorem dL_sound_214 : decode cL_sound 214 = .ok (.iconst 0, 1) := by decide +kernel
theorem dL_sound_215 : decode cL_sound 215 = .ok (.iadd, 1) := by decide +kernel
theorem dL_sound_216 : decode cL_sound 216 = .ok (.istore 7, 2) := by decide +kernel
theorem dL_sound_218 : decode cL_sound 218 = .ok (.iload 8, 2) := by decide +kernel
theorem dL_sound_220 : decode cL_sound 220 = .ok (.aload_n 0, 1) := by decide +kernel
theorem dL_sound_221 : decode cL_sound 221 = .ok (.bipush 28, 2) := by decide +kernel
theorem dL_sound_223 : decode cL_sound 223 = .ok (.iload 11, 2) := by decide +kernel
theorem dL_sound_225 : decode cL_sound 225 = .ok (.iconst 0, 1) := by decide +kernel
theorem dL_sound_226 : decode cL_sound 226 = .ok (.invokestatic 149, 3) := by decide +kernel
theorem dL_sound_229 : decode cL_sound 229 = .ok (.iadd, 1) := by decide +kernel
theorem dL_sound_230 : decode cL_sound 230 = .ok (.istore 8, 2) := by decide +kernel
theorem dL_sound_232 : decode cL_sound 232 = .ok (.iload 12, 2) := by decide +kernel
theorem dL_sound_234 : decode cL_sound 234 = .ok (.ifCond .lt 66, 3) := by decide +kernel
theorem dL_sound_237 : decode cL_sound 237 = .ok (.iload 12, 2) := by decide +kernel
theorem dL_sound_239 : decode cL_sound 239 = .ok (.iconst 5, 1) := by decide +kernel
theorem dL_sound_240 : decode cL_sound 240 = .ok (.if_icmp .gt 60, 3) := by decide +kernel
theorem dL_sound_243 : decode cL_sound 243 = .ok (.iload 13, 2) := by decide +kernel
theorem dL_sound_245 : decode cL_sound 245 = .ok (.ifCond .lt 55, 3) := by decide +kernel
theorem dL_sound_248 : decode cL_sound 248 = .ok (.iload 13, 2) := by decide +kernel
theorem dL_sound_250 : decode cL_sound 250 = .ok (.iconst 2, 1) := by decide +kernel
theorem dL_sound_251 : decode cL_sound 251 = .ok (.if_icmp .gt 49, 3) := by decide +kernel
theorem dL_sound_254 : decode cL_sound 254 = .ok (.aload_n 0, 1) := by decide +kernel
theorem dL_sound_255 : decode cL_sound 255 = .ok (.bipush 18, 2) := by decide +kernel
theorem dL_sound_257 : decode cL_sound 257 = .ok (.iload 11, 2) := by decide +kernel
theorem dL_sound_259 : decode cL_sound 259 = .ok (.iconst 0, 1) := by decide +kernel
theorem dL_sound_260 : decode cL_sound 260 = .ok (.invokestatic 149, 3) := by decide +kernel
theorem dL_sound_263 : decode cL_sound 263 = .ok (.iload 12, 2) := by decide +kernel
theorem dL_sound_265 : decode cL_sound 265 = .ok (.if_icmp .ne 35, 3) := by decide +kernel
theorem dL_sound_268 : decode cL_sound 268 = .ok (.aload_n 0, 1) := by decide +kernel
theorem dL_sound_269 : decode cL_sound 269 = .ok (.invokevirtual 165, 3) := by decide +kernel
theorem dL_sound_272 : decode cL_sound 272 = .ok (.ifCond .eq 14, 3) := by decide +kernel
theorem dL_sound_275 : decode cL_sound 275 = .ok (.iload 12, 2) := by decide +kernel
theorem dL_sound_277 : decode cL_sound 277 = .ok (.iconst 1, 1) := by decide +kernel
theorem dL_sound_278 : decode cL_sound 278 = .ok (.if_icmp .eq 8, 3) := by decide +kernel
theorem dL_sound_281 : decode cL_sound 281 = .ok (.iload 13, 2) := by decide +kernel
theorem dL_sound_283 : decode cL_sound 283 = .ok (.ifCond .ne 17, 3) := by decide +kernel
theorem dL_sound_286 : decode cL_sound 286 = .ok (.aload_n 0, 1) := by decide +kernel
theorem dL_sound_287 : decode cL_sound 287 = .ok (.bipush 31, 2) := by decide +kernel
theorem dL_sound_289 : decode cL_sound 289 = .ok (.iload 11, 2) := by decide +kernel
theorem dL_sound_291 : decode cL_sound 291 = .ok (.iconst 4, 1) := by decide +kernel
theorem dL_sound_292 : decode cL_sound 292 = .ok (.invokestatic 149, 3) := by decide +kernel
theorem dL_sound_295 : decode cL_sound 295 = .ok (.bipush (-101), 2) := by decide +kernel
theorem dL_sound_297 : decode cL_sound 297 = .ok (.if_icmp .eq 5, 3) := by decide +kernel
theorem dL_sound_300 : decode cL_sound 300 = .ok (.iconst 0, 1) := by decide +kernel
theorem dL_sound_301 : decode cL_sound 301 = .ok (.ireturn, 1) := by decide +kernel
theorem dL_sound_302 : decode cL_sound 302 = .ok (.iinc 11 1, 3) := by decide +kernel
theorem dL_sound_305 : decode cL_sound 305 = .ok (.goto (-179), 3) := by decide +kernel
theorem dL_sound_308 : decode cL_sound 308 = .ok (.iconst 0, 1) := by decide +kernel
theorem dL_sound_309 : decode cL_sound 309 = .ok (.istore 11, 2) := by decide +kernel
theorem dL_sound_311 : decode cL_sound 311 = .ok (.iload 11, 2) := by decide +kernel
theorem dL_sound_313 : decode cL_sound 313 = .ok (.iconst 2, 1) := by decide +kernel
theorem dL_sound_314 : decode cL_sound 314 = .ok (.if_icmp .ge 23, 3) := by decide +kernel
theorem dL_sound_317 : decode cL_sound 317 = .ok (.aload 9, 2) := by decide +kernel
theorem dL_sound_319 : decode cL_sound 319 = .ok (.iload 11, 2) := by decide +kernel
theorem dL_sound_321 : decode cL_sound 321 = .ok (.aload_n 0, 1) := by decide +kernel
theorem dL_sound_322 : decode cL_sound 322 = .ok (.bipush 19, 2) := by decide +kernel
theorem dL_sound_324 : decode cL_sound 324 = .ok (.iload 11, 2) := by decide +kernel
theorem dL_sound_326 : decode cL_sound 326 = .ok (.iconst 0, 1) := by decide +kernel
theorem dL_sound_327 : decode cL_sound 327 = .ok (.invokestatic 149, 3) := by decide +kernel
theorem dL_sound_330 : decode cL_sound 330 = .ok (.iastore, 1) := by decide +kernel
theorem dL_sound_331 : decode cL_sound 331 = .ok (.iinc 11 1, 3) := by decide +kernel
theorem dL_sound_334 : decode cL_sound 334 = .ok (.goto (-23), 3) := by decide +kernel
theorem dL_sound_337 : decode cL_sound 337 = .ok (.iconst 0, 1) := by decide +kernel
theorem dL_sound_338 : decode cL_sound 338 = .ok (.istore 11, 2) := by decide +kernel
theorem dL_sound_340 : decode cL_sound 340 = .ok (.iconst 0, 1) := by decide +kernel
theorem dL_sound_341 : decode cL_sound 341 = .ok (.istore 12, 2) := by decide +kernel
theorem dL_sound_343 : decode cL_sound 343 = .ok (.iload 12, 2) := by decide +kernel
theorem dL_sound_345 : decode cL_sound 345 = .ok (.aload_n 0, 1) := by decide +kernel
theorem dL_sound_346 : decode cL_sound 346 = .ok (.invokevirtual 143, 3) := by decide +kernel
theorem dL_sound_349 : decode cL_sound 349 = .ok (.if_icmp .ge 31, 3) := by decide +kernel
theorem dL_sound_352 : decode cL_sound 352 = .ok (.iload 11, 2) := by decide +kernel
theorem dL_sound_354 : decode cL_sound 354 = .ok (.aload_n 0, 1) := by decide +kernel
theorem dL_sound_355 : decode cL_sound 355 = .ok (.bipush 17, 2) := by decide +kernel
theorem dL_sound_357 : decode cL_sound 357 = .ok (.iload 12, 2) := by decide +kernel
theorem dL_sound_359 : decode cL_sound 359 = .ok (.iconst 0, 1) := by decide +kernel
theorem dL_sound_360 : decode cL_sound 360 = .ok (.invokestatic 149, 3) := by decide +kernel
theorem dL_sound_363 : decode cL_sound 363 = .ok (.ifCond .ne 7, 3) := by decide +kernel
theorem dL_sound_366 : decode cL_sound 366 = .ok (.iconst 1, 1) := by decide +kernel
theorem dL_sound_367 : decode cL_sound 367 = .ok (.goto 4, 3) := by decide +kernel
theorem dL_sound_370 : decode cL_sound 370 = .ok (.iconst 0, 1) := by decide +kernel
theorem dL_sound_371 : decode cL_sound 371 = .ok (.iadd, 1) := by decide +kernel
theorem dL_sound_372 : decode cL_sound 372 = .ok (.istore 11, 2) := by decide +kernel
theorem dL_sound_374 : decode cL_sound 374 = .ok (.iinc 12 1, 3) := by decide +kernel
theorem dL_sound_377 : decode cL_sound 377 = .ok (.goto (-34), 3) := by decide +kernel
theorem dL_sound_380 : decode cL_sound 380 = .ok (.iload 5, 2) := by decide +kernel
theorem dL_sound_382 : decode cL_sound 382 = .ok (.iload 10, 2) := by decide +kernel
theorem dL_sound_384 : decode cL_sound 384 = .ok (.if_icmp .ne 79, 3) := by decide +kernel
theorem dL_sound_387 : decode cL_sound 387 = .ok (.aload_n 0, 1) := by decide +kernel
theorem dL_sound_388 : decode cL_sound 388 = .ok (.invokevirtual 159, 3) := by decide +kernel
theorem dL_sound_391 : decode cL_sound 391 = .ok (.iload 6, 2) := by decide +kernel
theorem dL_sound_393 : decode cL_sound 393 = .ok (.if_icmp .ne 70, 3) := by decide +kernel
theorem dL_sound_396 : decode cL_sound 396 = .ok (.aload_n 0, 1) := by decide +kernel
theorem dL_sound_397 : decode cL_sound 397 = .ok (.invokevirtual 162, 3) := by decide +kernel
theorem dL_sound_400 : decode cL_sound 400 = .ok (.iload 7, 2) := by decide +kernel
theorem dL_sound_402 : decode cL_sound 402 = .ok (.if_icmp .ne 61, 3) := by decide +kernel
theorem dL_sound_405 : decode cL_sound 405 = .ok (.iload 6, 2) := by decide +kernel
theorem dL_sound_407 : decode cL_sound 407 = .ok (.iload 7, 2) := by decide +kernel
theorem dL_sound_409 : decode cL_sound 409 = .ok (.iadd, 1) := by decide +kernel
theorem dL_sound_410 : decode cL_sound 410 = .ok (.iload 8, 2) := by decide +kernel
theorem dL_sound_412 : decode cL_sound 412 = .ok (.if_icmp .gt 51, 3) := by decide +kernel
theorem dL_sound_415 : decode cL_sound 415 = .ok (.aload 9, 2) := by decide +kernel
theorem dL_sound_417 : decode cL_sound 417 = .ok (.iconst 0, 1) := by decide +kernel
theorem dL_sound_418 : decode cL_sound 418 = .ok (.iaload, 1) := by decide +kernel
theorem dL_sound_419 : decode cL_sound 419 = .ok (.aload 9, 2) := by decide +kernel
theorem dL_sound_421 : decode cL_sound 421 = .ok (.iconst 1, 1) := by decide +kernel
theorem dL_sound_422 : decode cL_sound 422 = .ok (.iaload, 1) := by decide +kernel
theorem dL_sound_423 : decode cL_sound 423 = .ok (.iadd, 1) := by decide +kernel
theorem dL_sound_424 : decode cL_sound 424 = .ok (.iload 11, 2) := by decide +kernel
theorem dL_sound_426 : decode cL_sound 426 = .ok (.if_icmp .ne 37, 3) := by decide +kernel
theorem dL_sound_429 : decode cL_sound 429 = .ok (.aload_n 0, 1) := by decide +kernel
theorem dL_sound_430 : decode cL_sound 430 = .ok (.bipush 17, 2) := by decide +kernel
theorem dL_sound_432 : decode cL_sound 432 = .ok (.aload_n 0, 1) := by decide +kernel
theorem dL_sound_433 : decode cL_sound 433 = .ok (.invokevirtual 143, 3) := by decide +kernel
theorem dL_sound_436 : decode cL_sound 436 = .ok (.iconst 0, 1) := by decide +kernel
theorem dL_sound_437 : decode cL_sound 437 = .ok (.invokestatic 149, 3) := by decide +kernel
theorem dL_sound_440 : decode cL_sound 440 = .ok (.bipush (-101), 2) := by decide +kernel
theorem dL_sound_442 : decode cL_sound 442 = .ok (.if_icmp .ne 21, 3) := by decide +kernel
theorem dL_sound_445 : decode cL_sound 445 = .ok (.aload_n 0, 1) := by decide +kernel
theorem dL_sound_446 : decode cL_sound 446 = .ok (.bipush 12, 2) := by decide +kernel
theorem dL_sound_448 : decode cL_sound 448 = .ok (.iload 4, 2) := by decide +kernel
theorem dL_sound_450 : decode cL_sound 450 = .ok (.iconst 0, 1) := by decide +kernel
theorem dL_sound_451 : decode cL_sound 451 = .ok (.invokestatic 149, 3) := by decide +kernel
theorem dL_sound_454 : decode cL_sound 454 = .ok (.bipush (-101), 2) := by decide +kernel
theorem dL_sound_456 : decode cL_sound 456 = .ok (.if_icmp .ne 7, 3) := by decide +kernel
theorem dL_sound_459 : decode cL_sound 459 = .ok (.iconst 1, 1) := by decide +kernel
theorem dL_sound_460 : decode cL_sound 460 = .ok (.goto 4, 3) := by decide +kernel
theorem dL_sound_463 : decode cL_sound 463 = .ok (.iconst 0, 1) := by decide +kernel
theorem dL_sound_464 : decode cL_sound 464 = .ok (.ireturn, 1) := by decide +kernel
