theorem dX0_init_0 : decode cX0_init 0 = .ok (.aload_n 0, 1) := by decide +kernel
theorem dX0_init_1 : decode cX0_init 1 = .ok (.invokespecial 1, 3) := by decide +kernel
theorem dX0_init_4 : decode cX0_init 4 = .ok (.return_, 1) := by decide +kernel
theorem dX0_begin_0 : decode cX0_begin 0 = .ok (.aload_n 0, 1) := by decide +kernel
theorem dX0_begin_1 : decode cX0_begin 1 = .ok (.iload_n 1, 1) := by decide +kernel
theorem dX0_begin_2 : decode cX0_begin 2 = .ok (.putfield 7, 3) := by decide +kernel
theorem dX0_begin_5 : decode cX0_begin 5 = .ok (.aload_n 0, 1) := by decide +kernel
theorem dX0_begin_6 : decode cX0_begin 6 = .ok (.iload_n 2, 1) := by decide +kernel
theorem dX0_begin_7 : decode cX0_begin 7 = .ok (.putfield 13, 3) := by decide +kernel
theorem dX0_begin_10 : decode cX0_begin 10 = .ok (.aload_n 0, 1) := by decide +kernel
theorem dX0_begin_11 : decode cX0_begin 11 = .ok (.iconst 0, 1) := by decide +kernel
theorem dX0_begin_12 : decode cX0_begin 12 = .ok (.putfield 16, 3) := by decide +kernel
theorem dX0_begin_15 : decode cX0_begin 15 = .ok (.return_, 1) := by decide +kernel
theorem dX1_init_0 : decode cX1_init 0 = .ok (.aload_n 0, 1) := by decide +kernel
theorem dX1_init_1 : decode cX1_init 1 = .ok (.invokespecial 3, 3) := by decide +kernel
theorem dX1_init_4 : decode cX1_init 4 = .ok (.return_, 1) := by decide +kernel
theorem dX1_restart_0 : decode cX1_restart 0 = .ok (.aload_n 0, 1) := by decide +kernel
theorem dX1_restart_1 : decode cX1_restart 1 = .ok (.iconst 0, 1) := by decide +kernel
theorem dX1_restart_2 : decode cX1_restart 2 = .ok (.putfield 9, 3) := by decide +kernel
theorem dX1_restart_5 : decode cX1_restart 5 = .ok (.aload_n 0, 1) := by decide +kernel
theorem dX1_restart_6 : decode cX1_restart 6 = .ok (.bipush 20, 2) := by decide +kernel
theorem dX1_restart_8 : decode cX1_restart 8 = .ok (.bipush 25, 2) := by decide +kernel
theorem dX1_restart_10 : decode cX1_restart 10 = .ok (.bipush 40, 2) := by decide +kernel
theorem dX1_restart_12 : decode cX1_restart 12 = .ok (.invokevirtual 15, 3) := by decide +kernel
theorem dX1_restart_15 : decode cX1_restart 15 = .ok (.return_, 1) := by decide +kernel
theorem dX1_fix_0 : decode cX1_fix 0 = .ok (.aload_n 0, 1) := by decide +kernel
theorem dX1_fix_1 : decode cX1_fix 1 = .ok (.iload_n 1, 1) := by decide +kernel
theorem dX1_fix_2 : decode cX1_fix 2 = .ok (.putfield 19, 3) := by decide +kernel
theorem dX1_fix_5 : decode cX1_fix 5 = .ok (.aload_n 0, 1) := by decide +kernel
theorem dX1_fix_6 : decode cX1_fix 6 = .ok (.iload_n 2, 1) := by decide +kernel
theorem dX1_fix_7 : decode cX1_fix 7 = .ok (.putfield 22, 3) := by decide +kernel
theorem dX1_fix_10 : decode cX1_fix 10 = .ok (.aload_n 0, 1) := by decide +kernel
theorem dX1_fix_11 : decode cX1_fix 11 = .ok (.iload_n 3, 1) := by decide +kernel
theorem dX1_fix_12 : decode cX1_fix 12 = .ok (.putfield 25, 3) := by decide +kernel
theorem dX1_fix_15 : decode cX1_fix 15 = .ok (.return_, 1) := by decide +kernel
theorem dX1_isBeforeClose_0 : decode cX1_isBeforeClose 0 = .ok (.aload_n 0, 1) := by decide +kernel
theorem dX1_isBeforeClose_1 : decode cX1_isBeforeClose 1 = .ok (.getfield 9, 3) := by decide +kernel
theorem dX1_isBeforeClose_4 : decode cX1_isBeforeClose 4 = .ok (.aload_n 0, 1) := by decide +kernel
theorem dX1_isBeforeClose_5 : decode cX1_isBeforeClose 5 = .ok (.getfield 19, 3) := by decide +kernel
theorem dX1_isBeforeClose_8 : decode cX1_isBeforeClose 8 = .ok (.if_icmp .gt 7, 3) := by decide +kernel
theorem dX1_isBeforeClose_11 : decode cX1_isBeforeClose 11 = .ok (.iconst 1, 1) := by decide +kernel
theorem dX1_isBeforeClose_12 : decode cX1_isBeforeClose 12 = .ok (.goto 4, 3) := by decide +kernel
theorem dX1_isBeforeClose_15 : decode cX1_isBeforeClose 15 = .ok (.iconst 0, 1) := by decide +kernel
theorem dX1_isBeforeClose_16 : decode cX1_isBeforeClose 16 = .ok (.ireturn, 1) := by decide +kernel
theorem dX1_allowsChanges_0 : decode cX1_allowsChanges 0 = .ok (.aload_n 0, 1) := by decide +kernel
theorem dX1_allowsChanges_1 : decode cX1_allowsChanges 1 = .ok (.getfield 9, 3) := by decide +kernel
theorem dX1_allowsChanges_4 : decode cX1_allowsChanges 4 = .ok (.aload_n 0, 1) := by decide +kernel
theorem dX1_allowsChanges_5 : decode cX1_allowsChanges 5 = .ok (.getfield 22, 3) := by decide +kernel
theorem dX1_allowsChanges_8 : decode cX1_allowsChanges 8 = .ok (.if_icmp .gt 7, 3) := by decide +kernel
theorem dX1_allowsChanges_11 : decode cX1_allowsChanges 11 = .ok (.iconst 1, 1) := by decide +kernel
theorem dX1_allowsChanges_12 : decode cX1_allowsChanges 12 = .ok (.goto 4, 3) := by decide +kernel
theorem dX1_allowsChanges_15 : decode cX1_allowsChanges 15 = .ok (.iconst 0, 1) := by decide +kernel
theorem dX1_allowsChanges_16 : decode cX1_allowsChanges 16 = .ok (.ireturn, 1) := by decide +kernel
theorem dX1_isPollingOpen_0 : decode cX1_isPollingOpen 0 = .ok (.aload_n 0, 1) := by decide +kernel
theorem dX1_isPollingOpen_1 : decode cX1_isPollingOpen 1 = .ok (.getfield 9, 3) := by decide +kernel
theorem dX1_isPollingOpen_4 : decode cX1_isPollingOpen 4 = .ok (.aload_n 0, 1) := by decide +kernel
theorem dX1_isPollingOpen_5 : decode cX1_isPollingOpen 5 = .ok (.getfield 25, 3) := by decide +kernel
theorem dX1_isPollingOpen_8 : decode cX1_isPollingOpen 8 = .ok (.if_icmp .lt 7, 3) := by decide +kernel
theorem dX1_isPollingOpen_11 : decode cX1_isPollingOpen 11 = .ok (.iconst 1, 1) := by decide +kernel
theorem dX1_isPollingOpen_12 : decode cX1_isPollingOpen 12 = .ok (.goto 4, 3) := by decide +kernel
theorem dX1_isPollingOpen_15 : decode cX1_isPollingOpen 15 = .ok (.iconst 0, 1) := by decide +kernel
theorem dX1_isPollingOpen_16 : decode cX1_isPollingOpen 16 = .ok (.ireturn, 1) := by decide +kernel
theorem dX2_init_0 : decode cX2_init 0 = .ok (.aload_n 0, 1) := by decide +kernel
theorem dX2_init_1 : decode cX2_init 1 = .ok (.invokespecial 3, 3) := by decide +kernel
theorem dX2_init_4 : decode cX2_init 4 = .ok (.aload_n 0, 1) := by decide +kernel
theorem dX2_init_5 : decode cX2_init 5 = .ok (.sipush 512, 3) := by decide +kernel
theorem dX2_init_8 : decode cX2_init 8 = .ok (.newarray .int, 2) := by decide +kernel
theorem dX2_init_10 : decode cX2_init 10 = .ok (.putfield 9, 3) := by decide +kernel
theorem dX2_init_13 : decode cX2_init 13 = .ok (.aload_n 0, 1) := by decide +kernel
theorem dX2_init_14 : decode cX2_init 14 = .ok (.sipush 512, 3) := by decide +kernel
theorem dX2_init_17 : decode cX2_init 17 = .ok (.newarray .int, 2) := by decide +kernel
theorem dX2_init_19 : decode cX2_init 19 = .ok (.putfield 15, 3) := by decide +kernel
theorem dX2_init_22 : decode cX2_init 22 = .ok (.aload_n 0, 1) := by decide +kernel
theorem dX2_init_23 : decode cX2_init 23 = .ok (.sipush 512, 3) := by decide +kernel
theorem dX2_init_26 : decode cX2_init 26 = .ok (.newarray .int, 2) := by decide +kernel
theorem dX2_init_28 : decode cX2_init 28 = .ok (.putfield 18, 3) := by decide +kernel
theorem dX2_init_31 : decode cX2_init 31 = .ok (.aload_n 0, 1) := by decide +kernel
theorem dX2_init_32 : decode cX2_init 32 = .ok (.sipush 512, 3) := by decide +kernel
theorem dX2_init_35 : decode cX2_init 35 = .ok (.newarray .int, 2) := by decide +kernel
theorem dX2_init_37 : decode cX2_init 37 = .ok (.putfield 21, 3) := by decide +kernel
theorem dX2_init_40 : decode cX2_init 40 = .ok (.return_, 1) := by decide +kernel
theorem dX2_write_0 : decode cX2_write 0 = .ok (.aload_n 0, 1) := by decide +kernel
theorem dX2_write_1 : decode cX2_write 1 = .ok (.getfield 24, 3) := by decide +kernel
theorem dX2_write_4 : decode cX2_write 4 = .ok (.sipush 512, 3) := by decide +kernel
theorem dX2_write_7 : decode cX2_write 7 = .ok (.if_icmp .ge 54, 3) := by decide +kernel
theorem dX2_write_10 : decode cX2_write 10 = .ok (.aload_n 0, 1) := by decide +kernel
theorem dX2_write_11 : decode cX2_write 11 = .ok (.getfield 9, 3) := by decide +kernel
theorem dX2_write_14 : decode cX2_write 14 = .ok (.aload_n 0, 1) := by decide +kernel
theorem dX2_write_15 : decode cX2_write 15 = .ok (.getfield 24, 3) := by decide +kernel
theorem dX2_write_18 : decode cX2_write 18 = .ok (.iload_n 1, 1) := by decide +kernel
theorem dX2_write_19 : decode cX2_write 19 = .ok (.iastore, 1) := by decide +kernel
theorem dX2_write_20 : decode cX2_write 20 = .ok (.aload_n 0, 1) := by decide +kernel
theorem dX2_write_21 : decode cX2_write 21 = .ok (.getfield 15, 3) := by decide +kernel
theorem dX2_write_24 : decode cX2_write 24 = .ok (.aload_n 0, 1) := by decide +kernel
theorem dX2_write_25 : decode cX2_write 25 = .ok (.getfield 24, 3) := by decide +kernel
theorem dX2_write_28 : decode cX2_write 28 = .ok (.iload_n 2, 1) := by decide +kernel
theorem dX2_write_29 : decode cX2_write 29 = .ok (.iastore, 1) := by decide +kernel
theorem dX2_write_30 : decode cX2_write 30 = .ok (.aload_n 0, 1) := by decide +kernel
theorem dX2_write_31 : decode cX2_write 31 = .ok (.getfield 18, 3) := by decide +kernel
theorem dX2_write_34 : decode cX2_write 34 = .ok (.aload_n 0, 1) := by decide +kernel
theorem dX2_write_35 : decode cX2_write 35 = .ok (.getfield 24, 3) := by decide +kernel
theorem dX2_write_38 : decode cX2_write 38 = .ok (.iload_n 3, 1) := by decide +kernel
theorem dX2_write_39 : decode cX2_write 39 = .ok (.iastore, 1) := by decide +kernel
theorem dX2_write_40 : decode cX2_write 40 = .ok (.aload_n 0, 1) := by decide +kernel
theorem dX2_write_41 : decode cX2_write 41 = .ok (.getfield 21, 3) := by decide +kernel
theorem dX2_write_44 : decode cX2_write 44 = .ok (.aload_n 0, 1) := by decide +kernel
theorem dX2_write_45 : decode cX2_write 45 = .ok (.getfield 24, 3) := by decide +kernel
theorem dX2_write_48 : decode cX2_write 48 = .ok (.iload 4, 2) := by decide +kernel
theorem dX2_write_50 : decode cX2_write 50 = .ok (.iastore, 1) := by decide +kernel
theorem dX2_write_51 : decode cX2_write 51 = .ok (.aload_n 0, 1) := by decide +kernel
theorem dX2_write_52 : decode cX2_write 52 = .ok (.dup, 1) := by decide +kernel
theorem dX2_write_53 : decode cX2_write 53 = .ok (.getfield 24, 3) := by decide +kernel
theorem dX2_write_56 : decode cX2_write 56 = .ok (.iconst 1, 1) := by decide +kernel
theorem dX2_write_57 : decode cX2_write 57 = .ok (.iadd, 1) := by decide +kernel
theorem dX2_write_58 : decode cX2_write 58 = .ok (.putfield 24, 3) := by decide +kernel
theorem dX2_write_61 : decode cX2_write 61 = .ok (.return_, 1) := by decide +kernel
theorem dX3_init_0 : decode cX3_init 0 = .ok (.aload_n 0, 1) := by decide +kernel
theorem dX3_init_1 : decode cX3_init 1 = .ok (.invokespecial 3, 3) := by decide +kernel
theorem dX3_init_4 : decode cX3_init 4 = .ok (.aload_n 0, 1) := by decide +kernel
theorem dX3_init_5 : decode cX3_init 5 = .ok (.bipush 26, 2) := by decide +kernel
theorem dX3_init_7 : decode cX3_init 7 = .ok (.newarray .char, 2) := by decide +kernel
theorem dX3_init_9 : decode cX3_init 9 = .ok (.putfield 9, 3) := by decide +kernel
theorem dX3_init_12 : decode cX3_init 12 = .ok (.aload_n 0, 1) := by decide +kernel
theorem dX3_init_13 : decode cX3_init 13 = .ok (.bipush 26, 2) := by decide +kernel
theorem dX3_init_15 : decode cX3_init 15 = .ok (.newarray .int, 2) := by decide +kernel
theorem dX3_init_17 : decode cX3_init 17 = .ok (.putfield 15, 3) := by decide +kernel
theorem dX3_init_20 : decode cX3_init 20 = .ok (.return_, 1) := by decide +kernel
theorem dX3_restart_0 : decode cX3_restart 0 = .ok (.aload_n 0, 1) := by decide +kernel
theorem dX3_restart_1 : decode cX3_restart 1 = .ok (.iconst 0, 1) := by decide +kernel
theorem dX3_restart_2 : decode cX3_restart 2 = .ok (.putfield 19, 3) := by decide +kernel
theorem dX3_restart_5 : decode cX3_restart 5 = .ok (.return_, 1) := by decide +kernel
theorem dX3_shuffle_0 : decode cX3_shuffle 0 = .ok (.iconst 0, 1) := by decide +kernel
theorem dX3_shuffle_1 : decode cX3_shuffle 1 = .ok (.istore_n 2, 1) := by decide +kernel
theorem dX3_shuffle_2 : decode cX3_shuffle 2 = .ok (.iload_n 2, 1) := by decide +kernel
theorem dX3_shuffle_3 : decode cX3_shuffle 3 = .ok (.bipush 26, 2) := by decide +kernel
theorem dX3_shuffle_5 : decode cX3_shuffle 5 = .ok (.if_icmp .ge 20, 3) := by decide +kernel
theorem dX3_shuffle_8 : decode cX3_shuffle 8 = .ok (.aload_n 0, 1) := by decide +kernel
theorem dX3_shuffle_9 : decode cX3_shuffle 9 = .ok (.getfield 9, 3) := by decide +kernel
theorem dX3_shuffle_12 : decode cX3_shuffle 12 = .ok (.iload_n 2, 1) := by decide +kernel
theorem dX3_shuffle_13 : decode cX3_shuffle 13 = .ok (.bipush 97, 2) := by decide +kernel
theorem dX3_shuffle_15 : decode cX3_shuffle 15 = .ok (.iload_n 2, 1) := by decide +kernel
theorem dX3_shuffle_16 : decode cX3_shuffle 16 = .ok (.iadd, 1) := by decide +kernel
theorem dX3_shuffle_17 : decode cX3_shuffle 17 = .ok (.i2c, 1) := by decide +kernel
theorem dX3_shuffle_18 : decode cX3_shuffle 18 = .ok (.castore, 1) := by decide +kernel
theorem dX3_shuffle_19 : decode cX3_shuffle 19 = .ok (.iinc 2 1, 3) := by decide +kernel
theorem dX3_shuffle_22 : decode cX3_shuffle 22 = .ok (.goto (-20), 3) := by decide +kernel
theorem dX3_shuffle_25 : decode cX3_shuffle 25 = .ok (.iload_n 1, 1) := by decide +kernel
theorem dX3_shuffle_26 : decode cX3_shuffle 26 = .ok (.istore_n 2, 1) := by decide +kernel
theorem dX3_shuffle_27 : decode cX3_shuffle 27 = .ok (.bipush 25, 2) := by decide +kernel
theorem dX3_shuffle_29 : decode cX3_shuffle 29 = .ok (.istore_n 3, 1) := by decide +kernel
theorem dX3_shuffle_30 : decode cX3_shuffle 30 = .ok (.iload_n 3, 1) := by decide +kernel
theorem dX3_shuffle_31 : decode cX3_shuffle 31 = .ok (.iconst 1, 1) := by decide +kernel
theorem dX3_shuffle_32 : decode cX3_shuffle 32 = .ok (.if_icmp .lt 31, 3) := by decide +kernel
theorem dX3_shuffle_35 : decode cX3_shuffle 35 = .ok (.iload_n 2, 1) := by decide +kernel
theorem dX3_shuffle_36 : decode cX3_shuffle 36 = .ok (.ldc 23, 2) := by decide +kernel
theorem dX3_shuffle_38 : decode cX3_shuffle 38 = .ok (.imul, 1) := by decide +kernel
theorem dX3_shuffle_39 : decode cX3_shuffle 39 = .ok (.sipush 12345, 3) := by decide +kernel
theorem dX3_shuffle_42 : decode cX3_shuffle 42 = .ok (.iadd, 1) := by decide +kernel
theorem dX3_shuffle_43 : decode cX3_shuffle 43 = .ok (.istore_n 2, 1) := by decide +kernel
theorem dX3_shuffle_44 : decode cX3_shuffle 44 = .ok (.aload_n 0, 1) := by decide +kernel
theorem dX3_shuffle_45 : decode cX3_shuffle 45 = .ok (.iload_n 2, 1) := by decide +kernel
theorem dX3_shuffle_46 : decode cX3_shuffle 46 = .ok (.bipush 8, 2) := by decide +kernel
theorem dX3_shuffle_48 : decode cX3_shuffle 48 = .ok (.iushr, 1) := by decide +kernel
theorem dX3_shuffle_49 : decode cX3_shuffle 49 = .ok (.iload_n 3, 1) := by decide +kernel
theorem dX3_shuffle_50 : decode cX3_shuffle 50 = .ok (.iconst 1, 1) := by decide +kernel
theorem dX3_shuffle_51 : decode cX3_shuffle 51 = .ok (.iadd, 1) := by decide +kernel
theorem dX3_shuffle_52 : decode cX3_shuffle 52 = .ok (.irem, 1) := by decide +kernel
theorem dX3_shuffle_53 : decode cX3_shuffle 53 = .ok (.iload_n 3, 1) := by decide +kernel
theorem dX3_shuffle_54 : decode cX3_shuffle 54 = .ok (.invokevirtual 24, 3) := by decide +kernel
theorem dX3_shuffle_57 : decode cX3_shuffle 57 = .ok (.iinc 3 (-1), 3) := by decide +kernel
theorem dX3_shuffle_60 : decode cX3_shuffle 60 = .ok (.goto (-30), 3) := by decide +kernel
theorem dX3_shuffle_63 : decode cX3_shuffle 63 = .ok (.iconst 0, 1) := by decide +kernel
theorem dX3_shuffle_64 : decode cX3_shuffle 64 = .ok (.istore_n 3, 1) := by decide +kernel
theorem dX3_shuffle_65 : decode cX3_shuffle 65 = .ok (.iload_n 3, 1) := by decide +kernel
theorem dX3_shuffle_66 : decode cX3_shuffle 66 = .ok (.bipush 26, 2) := by decide +kernel
theorem dX3_shuffle_68 : decode cX3_shuffle 68 = .ok (.if_icmp .ge 24, 3) := by decide +kernel
theorem dX3_shuffle_71 : decode cX3_shuffle 71 = .ok (.aload_n 0, 1) := by decide +kernel
theorem dX3_shuffle_72 : decode cX3_shuffle 72 = .ok (.getfield 15, 3) := by decide +kernel
theorem dX3_shuffle_75 : decode cX3_shuffle 75 = .ok (.aload_n 0, 1) := by decide +kernel
theorem dX3_shuffle_76 : decode cX3_shuffle 76 = .ok (.getfield 9, 3) := by decide +kernel
theorem dX3_shuffle_79 : decode cX3_shuffle 79 = .ok (.iload_n 3, 1) := by decide +kernel
theorem dX3_shuffle_80 : decode cX3_shuffle 80 = .ok (.caload, 1) := by decide +kernel
theorem dX3_shuffle_81 : decode cX3_shuffle 81 = .ok (.bipush 97, 2) := by decide +kernel
theorem dX3_shuffle_83 : decode cX3_shuffle 83 = .ok (.isub, 1) := by decide +kernel
theorem dX3_shuffle_84 : decode cX3_shuffle 84 = .ok (.iload_n 3, 1) := by decide +kernel
theorem dX3_shuffle_85 : decode cX3_shuffle 85 = .ok (.iastore, 1) := by decide +kernel
theorem dX3_shuffle_86 : decode cX3_shuffle 86 = .ok (.iinc 3 1, 3) := by decide +kernel
theorem dX3_shuffle_89 : decode cX3_shuffle 89 = .ok (.goto (-24), 3) := by decide +kernel
theorem dX3_shuffle_92 : decode cX3_shuffle 92 = .ok (.aload_n 0, 1) := by decide +kernel
theorem dX3_shuffle_93 : decode cX3_shuffle 93 = .ok (.iconst 1, 1) := by decide +kernel
theorem dX3_shuffle_94 : decode cX3_shuffle 94 = .ok (.putfield 19, 3) := by decide +kernel
theorem dX3_shuffle_97 : decode cX3_shuffle 97 = .ok (.return_, 1) := by decide +kernel
theorem dX3_exchange_0 : decode cX3_exchange 0 = .ok (.aload_n 0, 1) := by decide +kernel
theorem dX3_exchange_1 : decode cX3_exchange 1 = .ok (.getfield 9, 3) := by decide +kernel
theorem dX3_exchange_4 : decode cX3_exchange 4 = .ok (.iload_n 1, 1) := by decide +kernel
theorem dX3_exchange_5 : decode cX3_exchange 5 = .ok (.caload, 1) := by decide +kernel
theorem dX3_exchange_6 : decode cX3_exchange 6 = .ok (.istore_n 3, 1) := by decide +kernel
theorem dX3_exchange_7 : decode cX3_exchange 7 = .ok (.aload_n 0, 1) := by decide +kernel
theorem dX3_exchange_8 : decode cX3_exchange 8 = .ok (.getfield 9, 3) := by decide +kernel
theorem dX3_exchange_11 : decode cX3_exchange 11 = .ok (.iload_n 1, 1) := by decide +kernel
theorem dX3_exchange_12 : decode cX3_exchange 12 = .ok (.aload_n 0, 1) := by decide +kernel
theorem dX3_exchange_13 : decode cX3_exchange 13 = .ok (.getfield 9, 3) := by decide +kernel
theorem dX3_exchange_16 : decode cX3_exchange 16 = .ok (.iload_n 2, 1) := by decide +kernel
theorem dX3_exchange_17 : decode cX3_exchange 17 = .ok (.caload, 1) := by decide +kernel
theorem dX3_exchange_18 : decode cX3_exchange 18 = .ok (.castore, 1) := by decide +kernel
theorem dX3_exchange_19 : decode cX3_exchange 19 = .ok (.aload_n 0, 1) := by decide +kernel
theorem dX3_exchange_20 : decode cX3_exchange 20 = .ok (.getfield 9, 3) := by decide +kernel
theorem dX3_exchange_23 : decode cX3_exchange 23 = .ok (.iload_n 2, 1) := by decide +kernel
theorem dX3_exchange_24 : decode cX3_exchange 24 = .ok (.iload_n 3, 1) := by decide +kernel
theorem dX3_exchange_25 : decode cX3_exchange 25 = .ok (.castore, 1) := by decide +kernel
theorem dX3_exchange_26 : decode cX3_exchange 26 = .ok (.return_, 1) := by decide +kernel
theorem dX3_rankOf_0 : decode cX3_rankOf 0 = .ok (.iconst 0, 1) := by decide +kernel
theorem dX3_rankOf_1 : decode cX3_rankOf 1 = .ok (.istore_n 2, 1) := by decide +kernel
theorem dX3_rankOf_2 : decode cX3_rankOf 2 = .ok (.iconst 0, 1) := by decide +kernel
theorem dX3_rankOf_3 : decode cX3_rankOf 3 = .ok (.istore_n 3, 1) := by decide +kernel
theorem dX3_rankOf_4 : decode cX3_rankOf 4 = .ok (.iload_n 3, 1) := by decide +kernel
theorem dX3_rankOf_5 : decode cX3_rankOf 5 = .ok (.iconst 4, 1) := by decide +kernel
theorem dX3_rankOf_6 : decode cX3_rankOf 6 = .ok (.if_icmp .ge 46, 3) := by decide +kernel
theorem dX3_rankOf_9 : decode cX3_rankOf 9 = .ok (.iload_n 1, 1) := by decide +kernel
theorem dX3_rankOf_10 : decode cX3_rankOf 10 = .ok (.iload_n 3, 1) := by decide +kernel
theorem dX3_rankOf_11 : decode cX3_rankOf 11 = .ok (.invokestatic 28, 3) := by decide +kernel
theorem dX3_rankOf_14 : decode cX3_rankOf 14 = .ok (.istore 4, 2) := by decide +kernel
theorem dX3_rankOf_16 : decode cX3_rankOf 16 = .ok (.iload_n 2, 1) := by decide +kernel
theorem dX3_rankOf_17 : decode cX3_rankOf 17 = .ok (.bipush 27, 2) := by decide +kernel
theorem dX3_rankOf_19 : decode cX3_rankOf 19 = .ok (.imul, 1) := by decide +kernel
theorem dX3_rankOf_20 : decode cX3_rankOf 20 = .ok (.iload 4, 2) := by decide +kernel
theorem dX3_rankOf_22 : decode cX3_rankOf 22 = .ok (.invokestatic 32, 3) := by decide +kernel
theorem dX3_rankOf_25 : decode cX3_rankOf 25 = .ok (.ifCond .eq 18, 3) := by decide +kernel
theorem dX3_rankOf_28 : decode cX3_rankOf 28 = .ok (.aload_n 0, 1) := by decide +kernel
theorem dX3_rankOf_29 : decode cX3_rankOf 29 = .ok (.getfield 15, 3) := by decide +kernel
theorem dX3_rankOf_32 : decode cX3_rankOf 32 = .ok (.iload 4, 2) := by decide +kernel
theorem dX3_rankOf_34 : decode cX3_rankOf 34 = .ok (.bipush 97, 2) := by decide +kernel
theorem dX3_rankOf_36 : decode cX3_rankOf 36 = .ok (.isub, 1) := by decide +kernel
theorem dX3_rankOf_37 : decode cX3_rankOf 37 = .ok (.iaload, 1) := by decide +kernel
theorem dX3_rankOf_38 : decode cX3_rankOf 38 = .ok (.iconst 1, 1) := by decide +kernel
theorem dX3_rankOf_39 : decode cX3_rankOf 39 = .ok (.iadd, 1) := by decide +kernel
theorem dX3_rankOf_40 : decode cX3_rankOf 40 = .ok (.goto 4, 3) := by decide +kernel
theorem dX3_rankOf_43 : decode cX3_rankOf 43 = .ok (.iconst 0, 1) := by decide +kernel
theorem dX3_rankOf_44 : decode cX3_rankOf 44 = .ok (.iadd, 1) := by decide +kernel
theorem dX3_rankOf_45 : decode cX3_rankOf 45 = .ok (.istore_n 2, 1) := by decide +kernel
theorem dX3_rankOf_46 : decode cX3_rankOf 46 = .ok (.iinc 3 1, 3) := by decide +kernel
theorem dX3_rankOf_49 : decode cX3_rankOf 49 = .ok (.goto (-45), 3) := by decide +kernel
theorem dX3_rankOf_52 : decode cX3_rankOf 52 = .ok (.iload_n 2, 1) := by decide +kernel
theorem dX3_rankOf_53 : decode cX3_rankOf 53 = .ok (.ireturn, 1) := by decide +kernel
theorem dX4_init_0 : decode cX4_init 0 = .ok (.aload_n 0, 1) := by decide +kernel
theorem dX4_init_1 : decode cX4_init 1 = .ok (.invokespecial 3, 3) := by decide +kernel
theorem dX4_init_4 : decode cX4_init 4 = .ok (.aload_n 0, 1) := by decide +kernel
theorem dX4_init_5 : decode cX4_init 5 = .ok (.new 9, 3) := by decide +kernel
theorem dX4_init_8 : decode cX4_init 8 = .ok (.dup, 1) := by decide +kernel
theorem dX4_init_9 : decode cX4_init 9 = .ok (.invokespecial 11, 3) := by decide +kernel
theorem dX4_init_12 : decode cX4_init 12 = .ok (.putfield 12, 3) := by decide +kernel
theorem dX4_init_15 : decode cX4_init 15 = .ok (.aload_n 0, 1) := by decide +kernel
theorem dX4_init_16 : decode cX4_init 16 = .ok (.new 18, 3) := by decide +kernel
theorem dX4_init_19 : decode cX4_init 19 = .ok (.dup, 1) := by decide +kernel
theorem dX4_init_20 : decode cX4_init 20 = .ok (.invokespecial 20, 3) := by decide +kernel
theorem dX4_init_23 : decode cX4_init 23 = .ok (.putfield 21, 3) := by decide +kernel
theorem dX4_init_26 : decode cX4_init 26 = .ok (.aload_n 0, 1) := by decide +kernel
theorem dX4_init_27 : decode cX4_init 27 = .ok (.new 25, 3) := by decide +kernel
theorem dX4_init_30 : decode cX4_init 30 = .ok (.dup, 1) := by decide +kernel
theorem dX4_init_31 : decode cX4_init 31 = .ok (.invokespecial 27, 3) := by decide +kernel
theorem dX4_init_34 : decode cX4_init 34 = .ok (.putfield 28, 3) := by decide +kernel
theorem dX4_init_37 : decode cX4_init 37 = .ok (.aload_n 0, 1) := by decide +kernel
theorem dX4_init_38 : decode cX4_init 38 = .ok (.bipush 12, 2) := by decide +kernel
theorem dX4_init_40 : decode cX4_init 40 = .ok (.anewarray 32, 3) := by decide +kernel
theorem dX4_init_43 : decode cX4_init 43 = .ok (.putfield 34, 3) := by decide +kernel
theorem dX4_init_46 : decode cX4_init 46 = .ok (.aload_n 0, 1) := by decide +kernel
theorem dX4_init_47 : decode cX4_init 47 = .ok (.sipush 150, 3) := by decide +kernel
theorem dX4_init_50 : decode cX4_init 50 = .ok (.anewarray 38, 3) := by decide +kernel
theorem dX4_init_53 : decode cX4_init 53 = .ok (.putfield 40, 3) := by decide +kernel
theorem dX4_init_56 : decode cX4_init 56 = .ok (.aload_n 0, 1) := by decide +kernel
theorem dX4_init_57 : decode cX4_init 57 = .ok (.sipush 150, 3) := by decide +kernel
theorem dX4_init_60 : decode cX4_init 60 = .ok (.newarray .int, 2) := by decide +kernel
theorem dX4_init_62 : decode cX4_init 62 = .ok (.putfield 44, 3) := by decide +kernel
theorem dX4_init_65 : decode cX4_init 65 = .ok (.iconst 0, 1) := by decide +kernel
theorem dX4_init_66 : decode cX4_init 66 = .ok (.istore_n 1, 1) := by decide +kernel
theorem dX4_init_67 : decode cX4_init 67 = .ok (.iload_n 1, 1) := by decide +kernel
theorem dX4_init_68 : decode cX4_init 68 = .ok (.bipush 12, 2) := by decide +kernel
theorem dX4_init_70 : decode cX4_init 70 = .ok (.if_icmp .ge 22, 3) := by decide +kernel
theorem dX4_init_73 : decode cX4_init 73 = .ok (.aload_n 0, 1) := by decide +kernel
theorem dX4_init_74 : decode cX4_init 74 = .ok (.getfield 34, 3) := by decide +kernel
theorem dX4_init_77 : decode cX4_init 77 = .ok (.iload_n 1, 1) := by decide +kernel
theorem dX4_init_78 : decode cX4_init 78 = .ok (.new 32, 3) := by decide +kernel
theorem dX4_init_81 : decode cX4_init 81 = .ok (.dup, 1) := by decide +kernel
theorem dX4_init_82 : decode cX4_init 82 = .ok (.invokespecial 48, 3) := by decide +kernel
theorem dX4_init_85 : decode cX4_init 85 = .ok (.aastore, 1) := by decide +kernel
theorem dX4_init_86 : decode cX4_init 86 = .ok (.iinc 1 1, 3) := by decide +kernel
theorem dX4_init_89 : decode cX4_init 89 = .ok (.goto (-22), 3) := by decide +kernel
theorem dX4_init_92 : decode cX4_init 92 = .ok (.iconst 0, 1) := by decide +kernel
theorem dX4_init_93 : decode cX4_init 93 = .ok (.istore_n 1, 1) := by decide +kernel
theorem dX4_init_94 : decode cX4_init 94 = .ok (.iload_n 1, 1) := by decide +kernel
theorem dX4_init_95 : decode cX4_init 95 = .ok (.sipush 150, 3) := by decide +kernel
theorem dX4_init_98 : decode cX4_init 98 = .ok (.if_icmp .ge 22, 3) := by decide +kernel
theorem dX4_init_101 : decode cX4_init 101 = .ok (.aload_n 0, 1) := by decide +kernel
theorem dX4_init_102 : decode cX4_init 102 = .ok (.getfield 40, 3) := by decide +kernel
theorem dX4_init_105 : decode cX4_init 105 = .ok (.iload_n 1, 1) := by decide +kernel
theorem dX4_init_106 : decode cX4_init 106 = .ok (.new 38, 3) := by decide +kernel
theorem dX4_init_109 : decode cX4_init 109 = .ok (.dup, 1) := by decide +kernel
theorem dX4_init_110 : decode cX4_init 110 = .ok (.invokespecial 49, 3) := by decide +kernel
theorem dX4_init_113 : decode cX4_init 113 = .ok (.aastore, 1) := by decide +kernel
theorem dX4_init_114 : decode cX4_init 114 = .ok (.iinc 1 1, 3) := by decide +kernel
theorem dX4_init_117 : decode cX4_init 117 = .ok (.goto (-23), 3) := by decide +kernel
theorem dX4_init_120 : decode cX4_init 120 = .ok (.aload_n 0, 1) := by decide +kernel
theorem dX4_init_121 : decode cX4_init 121 = .ok (.invokevirtual 50, 3) := by decide +kernel
theorem dX4_init_124 : decode cX4_init 124 = .ok (.return_, 1) := by decide +kernel
theorem dX4_restart_0 : decode cX4_restart 0 = .ok (.aload_n 0, 1) := by decide +kernel
theorem dX4_restart_1 : decode cX4_restart 1 = .ok (.getfield 12, 3) := by decide +kernel
theorem dX4_restart_4 : decode cX4_restart 4 = .ok (.invokevirtual 53, 3) := by decide +kernel
theorem dX4_restart_7 : decode cX4_restart 7 = .ok (.aload_n 0, 1) := by decide +kernel
theorem dX4_restart_8 : decode cX4_restart 8 = .ok (.getfield 21, 3) := by decide +kernel
theorem dX4_restart_11 : decode cX4_restart 11 = .ok (.invokevirtual 54, 3) := by decide +kernel
theorem dX4_restart_14 : decode cX4_restart 14 = .ok (.aload_n 0, 1) := by decide +kernel
theorem dX4_restart_15 : decode cX4_restart 15 = .ok (.getfield 28, 3) := by decide +kernel
theorem dX4_restart_18 : decode cX4_restart 18 = .ok (.invokevirtual 55, 3) := by decide +kernel
theorem dX4_restart_21 : decode cX4_restart 21 = .ok (.aload_n 0, 1) := by decide +kernel
theorem dX4_restart_22 : decode cX4_restart 22 = .ok (.iconst 0, 1) := by decide +kernel
theorem dX4_restart_23 : decode cX4_restart 23 = .ok (.putfield 56, 3) := by decide +kernel
theorem dX4_restart_26 : decode cX4_restart 26 = .ok (.aload_n 0, 1) := by decide +kernel
theorem dX4_restart_27 : decode cX4_restart 27 = .ok (.iconst 0, 1) := by decide +kernel
theorem dX4_restart_28 : decode cX4_restart 28 = .ok (.putfield 60, 3) := by decide +kernel
theorem dX4_restart_31 : decode cX4_restart 31 = .ok (.aload_n 0, 1) := by decide +kernel
theorem dX4_restart_32 : decode cX4_restart 32 = .ok (.iconst 0, 1) := by decide +kernel
theorem dX4_restart_33 : decode cX4_restart 33 = .ok (.putfield 63, 3) := by decide +kernel
theorem dX4_restart_36 : decode cX4_restart 36 = .ok (.return_, 1) := by decide +kernel
theorem dX4_happen_0 : decode cX4_happen 0 = .ok (.iload_n 1, 1) := by decide +kernel
theorem dX4_happen_1 : decode cX4_happen 1 = .ok (.tableswitch 211 0 15 #[79, 93, 113, 125, 136, 152, 168, 211, 211, 211, 211, 211, 211, 184, 211, 195], 79) := by decide +kernel
theorem dX4_happen_80 : decode cX4_happen 80 = .ok (.aload_n 0, 1) := by decide +kernel
theorem dX4_happen_81 : decode cX4_happen 81 = .ok (.getfield 12, 3) := by decide +kernel
theorem dX4_happen_84 : decode cX4_happen 84 = .ok (.iload_n 2, 1) := by decide +kernel
theorem dX4_happen_85 : decode cX4_happen 85 = .ok (.iload_n 3, 1) := by decide +kernel
theorem dX4_happen_86 : decode cX4_happen 86 = .ok (.iload 4, 2) := by decide +kernel
theorem dX4_happen_88 : decode cX4_happen 88 = .ok (.invokevirtual 66, 3) := by decide +kernel
theorem dX4_happen_91 : decode cX4_happen 91 = .ok (.goto 130, 3) := by decide +kernel
theorem dX4_happen_94 : decode cX4_happen 94 = .ok (.aload_n 0, 1) := by decide +kernel
theorem dX4_happen_95 : decode cX4_happen 95 = .ok (.invokevirtual 70, 3) := by decide +kernel
theorem dX4_happen_98 : decode cX4_happen 98 = .ok (.aload_n 0, 1) := by decide +kernel
theorem dX4_happen_99 : decode cX4_happen 99 = .ok (.getfield 12, 3) := by decide +kernel
theorem dX4_happen_102 : decode cX4_happen 102 = .ok (.dup, 1) := by decide +kernel
theorem dX4_happen_103 : decode cX4_happen 103 = .ok (.getfield 73, 3) := by decide +kernel
theorem dX4_happen_106 : decode cX4_happen 106 = .ok (.iload_n 2, 1) := by decide +kernel
theorem dX4_happen_107 : decode cX4_happen 107 = .ok (.iadd, 1) := by decide +kernel
theorem dX4_happen_108 : decode cX4_happen 108 = .ok (.putfield 73, 3) := by decide +kernel
theorem dX4_happen_111 : decode cX4_happen 111 = .ok (.goto 110, 3) := by decide +kernel
theorem dX4_happen_114 : decode cX4_happen 114 = .ok (.aload_n 0, 1) := by decide +kernel
theorem dX4_happen_115 : decode cX4_happen 115 = .ok (.getfield 21, 3) := by decide +kernel
theorem dX4_happen_118 : decode cX4_happen 118 = .ok (.iload_n 2, 1) := by decide +kernel
theorem dX4_happen_119 : decode cX4_happen 119 = .ok (.iload_n 3, 1) := by decide +kernel
theorem dX4_happen_120 : decode cX4_happen 120 = .ok (.invokevirtual 76, 3) := by decide +kernel
theorem dX4_happen_123 : decode cX4_happen 123 = .ok (.goto 98, 3) := by decide +kernel
theorem dX4_happen_126 : decode cX4_happen 126 = .ok (.aload_n 0, 1) := by decide +kernel
theorem dX4_happen_127 : decode cX4_happen 127 = .ok (.getfield 21, 3) := by decide +kernel
theorem dX4_happen_130 : decode cX4_happen 130 = .ok (.iload_n 2, 1) := by decide +kernel
theorem dX4_happen_131 : decode cX4_happen 131 = .ok (.invokevirtual 80, 3) := by decide +kernel
theorem dX4_happen_134 : decode cX4_happen 134 = .ok (.goto 87, 3) := by decide +kernel
theorem dX4_happen_137 : decode cX4_happen 137 = .ok (.aload_n 0, 1) := by decide +kernel
theorem dX4_happen_138 : decode cX4_happen 138 = .ok (.getfield 21, 3) := by decide +kernel
theorem dX4_happen_141 : decode cX4_happen 141 = .ok (.getfield 84, 3) := by decide +kernel
theorem dX4_happen_144 : decode cX4_happen 144 = .ok (.iload_n 2, 1) := by decide +kernel
theorem dX4_happen_145 : decode cX4_happen 145 = .ok (.aaload, 1) := by decide +kernel
theorem dX4_happen_146 : decode cX4_happen 146 = .ok (.iload_n 3, 1) := by decide +kernel
theorem dX4_happen_147 : decode cX4_happen 147 = .ok (.putfield 88, 3) := by decide +kernel
theorem dX4_happen_150 : decode cX4_happen 150 = .ok (.goto 71, 3) := by decide +kernel
theorem dX4_happen_153 : decode cX4_happen 153 = .ok (.aload_n 0, 1) := by decide +kernel
theorem dX4_happen_154 : decode cX4_happen 154 = .ok (.getfield 21, 3) := by decide +kernel
theorem dX4_happen_157 : decode cX4_happen 157 = .ok (.getfield 84, 3) := by decide +kernel
theorem dX4_happen_160 : decode cX4_happen 160 = .ok (.iload_n 2, 1) := by decide +kernel
theorem dX4_happen_161 : decode cX4_happen 161 = .ok (.aaload, 1) := by decide +kernel
theorem dX4_happen_162 : decode cX4_happen 162 = .ok (.iconst 0, 1) := by decide +kernel
theorem dX4_happen_163 : decode cX4_happen 163 = .ok (.putfield 93, 3) := by decide +kernel
theorem dX4_happen_166 : decode cX4_happen 166 = .ok (.goto 55, 3) := by decide +kernel
theorem dX4_happen_169 : decode cX4_happen 169 = .ok (.aload_n 0, 1) := by decide +kernel
theorem dX4_happen_170 : decode cX4_happen 170 = .ok (.getfield 21, 3) := by decide +kernel
theorem dX4_happen_173 : decode cX4_happen 173 = .ok (.getfield 84, 3) := by decide +kernel
theorem dX4_happen_176 : decode cX4_happen 176 = .ok (.iload_n 2, 1) := by decide +kernel
theorem dX4_happen_177 : decode cX4_happen 177 = .ok (.aaload, 1) := by decide +kernel
theorem dX4_happen_178 : decode cX4_happen 178 = .ok (.iconst 1, 1) := by decide +kernel
theorem dX4_happen_179 : decode cX4_happen 179 = .ok (.putfield 93, 3) := by decide +kernel
theorem dX4_happen_182 : decode cX4_happen 182 = .ok (.goto 39, 3) := by decide +kernel
theorem dX4_happen_185 : decode cX4_happen 185 = .ok (.aload_n 0, 1) := by decide +kernel
theorem dX4_happen_186 : decode cX4_happen 186 = .ok (.getfield 28, 3) := by decide +kernel
theorem dX4_happen_189 : decode cX4_happen 189 = .ok (.iload_n 2, 1) := by decide +kernel
theorem dX4_happen_190 : decode cX4_happen 190 = .ok (.invokevirtual 97, 3) := by decide +kernel
theorem dX4_happen_193 : decode cX4_happen 193 = .ok (.goto 28, 3) := by decide +kernel
theorem dX4_happen_196 : decode cX4_happen 196 = .ok (.aload_n 0, 1) := by decide +kernel
theorem dX4_happen_197 : decode cX4_happen 197 = .ok (.getfield 21, 3) := by decide +kernel
theorem dX4_happen_200 : decode cX4_happen 200 = .ok (.getfield 100, 3) := by decide +kernel
theorem dX4_happen_203 : decode cX4_happen 203 = .ok (.iload_n 2, 1) := by decide +kernel
theorem dX4_happen_204 : decode cX4_happen 204 = .ok (.aaload, 1) := by decide +kernel
theorem dX4_happen_205 : decode cX4_happen 205 = .ok (.iconst 1, 1) := by decide +kernel
theorem dX4_happen_206 : decode cX4_happen 206 = .ok (.putfield 104, 3) := by decide +kernel
theorem dX4_happen_209 : decode cX4_happen 209 = .ok (.goto 12, 3) := by decide +kernel
theorem dX4_happen_212 : decode cX4_happen 212 = .ok (.aload_n 0, 1) := by decide +kernel
theorem dX4_happen_213 : decode cX4_happen 213 = .ok (.iload_n 1, 1) := by decide +kernel
theorem dX4_happen_214 : decode cX4_happen 214 = .ok (.iload_n 2, 1) := by decide +kernel
theorem dX4_happen_215 : decode cX4_happen 215 = .ok (.iload_n 3, 1) := by decide +kernel
theorem dX4_happen_216 : decode cX4_happen 216 = .ok (.iload 4, 2) := by decide +kernel
theorem dX4_happen_218 : decode cX4_happen 218 = .ok (.invokevirtual 109, 3) := by decide +kernel
theorem dX4_happen_221 : decode cX4_happen 221 = .ok (.return_, 1) := by decide +kernel
theorem dX4_happenToPaper_0 : decode cX4_happenToPaper 0 = .ok (.iload_n 1, 1) := by decide +kernel
theorem dX4_happenToPaper_1 : decode cX4_happenToPaper 1 = .ok (.tableswitch 168 7 14 #[47, 58, 67, 85, 124, 137, 168, 150], 47) := by decide +kernel
theorem dX4_happenToPaper_48 : decode cX4_happenToPaper 48 = .ok (.aload_n 0, 1) := by decide +kernel
theorem dX4_happenToPaper_49 : decode cX4_happenToPaper 49 = .ok (.iload_n 2, 1) := by decide +kernel
theorem dX4_happenToPaper_50 : decode cX4_happenToPaper 50 = .ok (.iload_n 3, 1) := by decide +kernel
theorem dX4_happenToPaper_51 : decode cX4_happenToPaper 51 = .ok (.iload 4, 2) := by decide +kernel
theorem dX4_happenToPaper_53 : decode cX4_happenToPaper 53 = .ok (.invokevirtual 113, 3) := by decide +kernel
theorem dX4_happenToPaper_56 : decode cX4_happenToPaper 56 = .ok (.goto 113, 3) := by decide +kernel
theorem dX4_happenToPaper_59 : decode cX4_happenToPaper 59 = .ok (.aload_n 0, 1) := by decide +kernel
theorem dX4_happenToPaper_60 : decode cX4_happenToPaper 60 = .ok (.iload_n 2, 1) := by decide +kernel
theorem dX4_happenToPaper_61 : decode cX4_happenToPaper 61 = .ok (.iload_n 3, 1) := by decide +kernel
theorem dX4_happenToPaper_62 : decode cX4_happenToPaper 62 = .ok (.invokevirtual 116, 3) := by decide +kernel
theorem dX4_happenToPaper_65 : decode cX4_happenToPaper 65 = .ok (.goto 104, 3) := by decide +kernel
theorem dX4_happenToPaper_68 : decode cX4_happenToPaper 68 = .ok (.aload_n 0, 1) := by decide +kernel
theorem dX4_happenToPaper_69 : decode cX4_happenToPaper 69 = .ok (.getfield 34, 3) := by decide +kernel
theorem dX4_happenToPaper_72 : decode cX4_happenToPaper 72 = .ok (.iload_n 2, 1) := by decide +kernel
theorem dX4_happenToPaper_73 : decode cX4_happenToPaper 73 = .ok (.aaload, 1) := by decide +kernel
theorem dX4_happenToPaper_74 : decode cX4_happenToPaper 74 = .ok (.dup, 1) := by decide +kernel
theorem dX4_happenToPaper_75 : decode cX4_happenToPaper 75 = .ok (.getfield 119, 3) := by decide +kernel
theorem dX4_happenToPaper_78 : decode cX4_happenToPaper 78 = .ok (.iload_n 3, 1) := by decide +kernel
theorem dX4_happenToPaper_79 : decode cX4_happenToPaper 79 = .ok (.iadd, 1) := by decide +kernel
theorem dX4_happenToPaper_80 : decode cX4_happenToPaper 80 = .ok (.putfield 119, 3) := by decide +kernel
theorem dX4_happenToPaper_83 : decode cX4_happenToPaper 83 = .ok (.goto 86, 3) := by decide +kernel
theorem dX4_happenToPaper_86 : decode cX4_happenToPaper 86 = .ok (.aload_n 0, 1) := by decide +kernel
theorem dX4_happenToPaper_87 : decode cX4_happenToPaper 87 = .ok (.dup, 1) := by decide +kernel
theorem dX4_happenToPaper_88 : decode cX4_happenToPaper 88 = .ok (.getfield 63, 3) := by decide +kernel
theorem dX4_happenToPaper_91 : decode cX4_happenToPaper 91 = .ok (.iconst 1, 1) := by decide +kernel
theorem dX4_happenToPaper_92 : decode cX4_happenToPaper 92 = .ok (.iload_n 2, 1) := by decide +kernel
theorem dX4_happenToPaper_93 : decode cX4_happenToPaper 93 = .ok (.ishl, 1) := by decide +kernel
theorem dX4_happenToPaper_94 : decode cX4_happenToPaper 94 = .ok (.ior, 1) := by decide +kernel
theorem dX4_happenToPaper_95 : decode cX4_happenToPaper 95 = .ok (.putfield 63, 3) := by decide +kernel
theorem dX4_happenToPaper_98 : decode cX4_happenToPaper 98 = .ok (.aload_n 0, 1) := by decide +kernel
theorem dX4_happenToPaper_99 : decode cX4_happenToPaper 99 = .ok (.getfield 34, 3) := by decide +kernel
theorem dX4_happenToPaper_102 : decode cX4_happenToPaper 102 = .ok (.iload_n 2, 1) := by decide +kernel
theorem dX4_happenToPaper_103 : decode cX4_happenToPaper 103 = .ok (.aaload, 1) := by decide +kernel
theorem dX4_happenToPaper_104 : decode cX4_happenToPaper 104 = .ok (.aload_n 0, 1) := by decide +kernel
theorem dX4_happenToPaper_105 : decode cX4_happenToPaper 105 = .ok (.getfield 12, 3) := by decide +kernel
theorem dX4_happenToPaper_108 : decode cX4_happenToPaper 108 = .ok (.invokevirtual 122, 3) := by decide +kernel
theorem dX4_happenToPaper_111 : decode cX4_happenToPaper 111 = .ok (.ifCond .ne 7, 3) := by decide +kernel
theorem dX4_happenToPaper_114 : decode cX4_happenToPaper 114 = .ok (.iconst 1, 1) := by decide +kernel
theorem dX4_happenToPaper_115 : decode cX4_happenToPaper 115 = .ok (.goto 4, 3) := by decide +kernel
theorem dX4_happenToPaper_118 : decode cX4_happenToPaper 118 = .ok (.iconst 0, 1) := by decide +kernel
theorem dX4_happenToPaper_119 : decode cX4_happenToPaper 119 = .ok (.putfield 126, 3) := by decide +kernel
theorem dX4_happenToPaper_122 : decode cX4_happenToPaper 122 = .ok (.goto 47, 3) := by decide +kernel
theorem dX4_happenToPaper_125 : decode cX4_happenToPaper 125 = .ok (.aload_n 0, 1) := by decide +kernel
theorem dX4_happenToPaper_126 : decode cX4_happenToPaper 126 = .ok (.getfield 34, 3) := by decide +kernel
theorem dX4_happenToPaper_129 : decode cX4_happenToPaper 129 = .ok (.iload_n 2, 1) := by decide +kernel
theorem dX4_happenToPaper_130 : decode cX4_happenToPaper 130 = .ok (.aaload, 1) := by decide +kernel
theorem dX4_happenToPaper_131 : decode cX4_happenToPaper 131 = .ok (.iconst 1, 1) := by decide +kernel
theorem dX4_happenToPaper_132 : decode cX4_happenToPaper 132 = .ok (.putfield 129, 3) := by decide +kernel
theorem dX4_happenToPaper_135 : decode cX4_happenToPaper 135 = .ok (.goto 34, 3) := by decide +kernel
theorem dX4_happenToPaper_138 : decode cX4_happenToPaper 138 = .ok (.aload_n 0, 1) := by decide +kernel
theorem dX4_happenToPaper_139 : decode cX4_happenToPaper 139 = .ok (.getfield 34, 3) := by decide +kernel
theorem dX4_happenToPaper_142 : decode cX4_happenToPaper 142 = .ok (.iload_n 2, 1) := by decide +kernel
theorem dX4_happenToPaper_143 : decode cX4_happenToPaper 143 = .ok (.aaload, 1) := by decide +kernel
theorem dX4_happenToPaper_144 : decode cX4_happenToPaper 144 = .ok (.iload_n 3, 1) := by decide +kernel
theorem dX4_happenToPaper_145 : decode cX4_happenToPaper 145 = .ok (.invokevirtual 132, 3) := by decide +kernel
theorem dX4_happenToPaper_148 : decode cX4_happenToPaper 148 = .ok (.goto 21, 3) := by decide +kernel
theorem dX4_happenToPaper_151 : decode cX4_happenToPaper 151 = .ok (.aload_n 0, 1) := by decide +kernel
theorem dX4_happenToPaper_152 : decode cX4_happenToPaper 152 = .ok (.getfield 34, 3) := by decide +kernel
theorem dX4_happenToPaper_155 : decode cX4_happenToPaper 155 = .ok (.iload_n 2, 1) := by decide +kernel
theorem dX4_happenToPaper_156 : decode cX4_happenToPaper 156 = .ok (.aaload, 1) := by decide +kernel
theorem dX4_happenToPaper_157 : decode cX4_happenToPaper 157 = .ok (.dup, 1) := by decide +kernel
theorem dX4_happenToPaper_158 : decode cX4_happenToPaper 158 = .ok (.getfield 135, 3) := by decide +kernel
theorem dX4_happenToPaper_161 : decode cX4_happenToPaper 161 = .ok (.iload_n 3, 1) := by decide +kernel
theorem dX4_happenToPaper_162 : decode cX4_happenToPaper 162 = .ok (.iadd, 1) := by decide +kernel
theorem dX4_happenToPaper_163 : decode cX4_happenToPaper 163 = .ok (.putfield 135, 3) := by decide +kernel
theorem dX4_happenToPaper_166 : decode cX4_happenToPaper 166 = .ok (.goto 3, 3) := by decide +kernel
theorem dX4_happenToPaper_169 : decode cX4_happenToPaper 169 = .ok (.return_, 1) := by decide +kernel
theorem dX4_beginPaper_0 : decode cX4_beginPaper 0 = .ok (.aload_n 0, 1) := by decide +kernel
theorem dX4_beginPaper_1 : decode cX4_beginPaper 1 = .ok (.getfield 34, 3) := by decide +kernel
theorem dX4_beginPaper_4 : decode cX4_beginPaper 4 = .ok (.aload_n 0, 1) := by decide +kernel
theorem dX4_beginPaper_5 : decode cX4_beginPaper 5 = .ok (.getfield 56, 3) := by decide +kernel
theorem dX4_beginPaper_8 : decode cX4_beginPaper 8 = .ok (.aaload, 1) := by decide +kernel
theorem dX4_beginPaper_9 : decode cX4_beginPaper 9 = .ok (.iload_n 1, 1) := by decide +kernel
theorem dX4_beginPaper_10 : decode cX4_beginPaper 10 = .ok (.iload_n 2, 1) := by decide +kernel
theorem dX4_beginPaper_11 : decode cX4_beginPaper 11 = .ok (.iload_n 3, 1) := by decide +kernel
theorem dX4_beginPaper_12 : decode cX4_beginPaper 12 = .ok (.invokevirtual 138, 3) := by decide +kernel
theorem dX4_beginPaper_15 : decode cX4_beginPaper 15 = .ok (.aload_n 0, 1) := by decide +kernel
theorem dX4_beginPaper_16 : decode cX4_beginPaper 16 = .ok (.dup, 1) := by decide +kernel
theorem dX4_beginPaper_17 : decode cX4_beginPaper 17 = .ok (.getfield 56, 3) := by decide +kernel
theorem dX4_beginPaper_20 : decode cX4_beginPaper 20 = .ok (.iconst 1, 1) := by decide +kernel
theorem dX4_beginPaper_21 : decode cX4_beginPaper 21 = .ok (.iadd, 1) := by decide +kernel
theorem dX4_beginPaper_22 : decode cX4_beginPaper 22 = .ok (.putfield 56, 3) := by decide +kernel
theorem dX4_beginPaper_25 : decode cX4_beginPaper 25 = .ok (.return_, 1) := by decide +kernel
theorem dX4_beginSignature_0 : decode cX4_beginSignature 0 = .ok (.aload_n 0, 1) := by decide +kernel
theorem dX4_beginSignature_1 : decode cX4_beginSignature 1 = .ok (.getfield 21, 3) := by decide +kernel
theorem dX4_beginSignature_4 : decode cX4_beginSignature 4 = .ok (.getfield 84, 3) := by decide +kernel
theorem dX4_beginSignature_7 : decode cX4_beginSignature 7 = .ok (.iload_n 2, 1) := by decide +kernel
theorem dX4_beginSignature_8 : decode cX4_beginSignature 8 = .ok (.aaload, 1) := by decide +kernel
theorem dX4_beginSignature_9 : decode cX4_beginSignature 9 = .ok (.astore_n 3, 1) := by decide +kernel
theorem dX4_beginSignature_10 : decode cX4_beginSignature 10 = .ok (.aload_n 3, 1) := by decide +kernel
theorem dX4_beginSignature_11 : decode cX4_beginSignature 11 = .ok (.getfield 93, 3) := by decide +kernel
theorem dX4_beginSignature_14 : decode cX4_beginSignature 14 = .ok (.ifCond .eq 23, 3) := by decide +kernel
theorem dX4_beginSignature_17 : decode cX4_beginSignature 17 = .ok (.aload_n 3, 1) := by decide +kernel
theorem dX4_beginSignature_18 : decode cX4_beginSignature 18 = .ok (.getfield 88, 3) := by decide +kernel
theorem dX4_beginSignature_21 : decode cX4_beginSignature 21 = .ok (.aload_n 0, 1) := by decide +kernel
theorem dX4_beginSignature_22 : decode cX4_beginSignature 22 = .ok (.getfield 34, 3) := by decide +kernel
theorem dX4_beginSignature_25 : decode cX4_beginSignature 25 = .ok (.iload_n 1, 1) := by decide +kernel
theorem dX4_beginSignature_26 : decode cX4_beginSignature 26 = .ok (.aaload, 1) := by decide +kernel
theorem dX4_beginSignature_27 : decode cX4_beginSignature 27 = .ok (.getfield 141, 3) := by decide +kernel
theorem dX4_beginSignature_30 : decode cX4_beginSignature 30 = .ok (.if_icmp .ne 7, 3) := by decide +kernel
theorem dX4_beginSignature_33 : decode cX4_beginSignature 33 = .ok (.iconst 1, 1) := by decide +kernel
theorem dX4_beginSignature_34 : decode cX4_beginSignature 34 = .ok (.goto 4, 3) := by decide +kernel
theorem dX4_beginSignature_37 : decode cX4_beginSignature 37 = .ok (.iconst 0, 1) := by decide +kernel
theorem dX4_beginSignature_38 : decode cX4_beginSignature 38 = .ok (.istore 4, 2) := by decide +kernel
theorem dX4_beginSignature_40 : decode cX4_beginSignature 40 = .ok (.aload_n 0, 1) := by decide +kernel
theorem dX4_beginSignature_41 : decode cX4_beginSignature 41 = .ok (.getfield 40, 3) := by decide +kernel
theorem dX4_beginSignature_44 : decode cX4_beginSignature 44 = .ok (.aload_n 0, 1) := by decide +kernel
theorem dX4_beginSignature_45 : decode cX4_beginSignature 45 = .ok (.getfield 60, 3) := by decide +kernel
theorem dX4_beginSignature_48 : decode cX4_beginSignature 48 = .ok (.aaload, 1) := by decide +kernel
theorem dX4_beginSignature_49 : decode cX4_beginSignature 49 = .ok (.iload_n 1, 1) := by decide +kernel
theorem dX4_beginSignature_50 : decode cX4_beginSignature 50 = .ok (.iload_n 2, 1) := by decide +kernel
theorem dX4_beginSignature_51 : decode cX4_beginSignature 51 = .ok (.iload 4, 2) := by decide +kernel
theorem dX4_beginSignature_53 : decode cX4_beginSignature 53 = .ok (.aload_n 3, 1) := by decide +kernel
theorem dX4_beginSignature_54 : decode cX4_beginSignature 54 = .ok (.getfield 142, 3) := by decide +kernel
theorem dX4_beginSignature_57 : decode cX4_beginSignature 57 = .ok (.invokevirtual 145, 3) := by decide +kernel
theorem dX4_beginSignature_60 : decode cX4_beginSignature 60 = .ok (.aload_n 0, 1) := by decide +kernel
theorem dX4_beginSignature_61 : decode cX4_beginSignature 61 = .ok (.dup, 1) := by decide +kernel
theorem dX4_beginSignature_62 : decode cX4_beginSignature 62 = .ok (.getfield 60, 3) := by decide +kernel
theorem dX4_beginSignature_65 : decode cX4_beginSignature 65 = .ok (.iconst 1, 1) := by decide +kernel
theorem dX4_beginSignature_66 : decode cX4_beginSignature 66 = .ok (.iadd, 1) := by decide +kernel
theorem dX4_beginSignature_67 : decode cX4_beginSignature 67 = .ok (.putfield 60, 3) := by decide +kernel
theorem dX4_beginSignature_70 : decode cX4_beginSignature 70 = .ok (.iload 4, 2) := by decide +kernel
theorem dX4_beginSignature_72 : decode cX4_beginSignature 72 = .ok (.ifCond .eq 15, 3) := by decide +kernel
theorem dX4_beginSignature_75 : decode cX4_beginSignature 75 = .ok (.aload_n 3, 1) := by decide +kernel
theorem dX4_beginSignature_76 : decode cX4_beginSignature 76 = .ok (.dup, 1) := by decide +kernel
theorem dX4_beginSignature_77 : decode cX4_beginSignature 77 = .ok (.getfield 142, 3) := by decide +kernel
theorem dX4_beginSignature_80 : decode cX4_beginSignature 80 = .ok (.iconst 1, 1) := by decide +kernel
theorem dX4_beginSignature_81 : decode cX4_beginSignature 81 = .ok (.iload_n 1, 1) := by decide +kernel
theorem dX4_beginSignature_82 : decode cX4_beginSignature 82 = .ok (.ishl, 1) := by decide +kernel
theorem dX4_beginSignature_83 : decode cX4_beginSignature 83 = .ok (.ior, 1) := by decide +kernel
theorem dX4_beginSignature_84 : decode cX4_beginSignature 84 = .ok (.putfield 142, 3) := by decide +kernel
theorem dX4_beginSignature_87 : decode cX4_beginSignature 87 = .ok (.return_, 1) := by decide +kernel
theorem dX4_judge_0 : decode cX4_judge 0 = .ok (.aload_n 0, 1) := by decide +kernel
theorem dX4_judge_1 : decode cX4_judge 1 = .ok (.getfield 12, 3) := by decide +kernel
theorem dX4_judge_4 : decode cX4_judge 4 = .ok (.invokevirtual 122, 3) := by decide +kernel
theorem dX4_judge_7 : decode cX4_judge 7 = .ok (.ifCond .eq 37, 3) := by decide +kernel
theorem dX4_judge_10 : decode cX4_judge 10 = .ok (.aload_n 0, 1) := by decide +kernel
theorem dX4_judge_11 : decode cX4_judge 11 = .ok (.invokevirtual 148, 3) := by decide +kernel
theorem dX4_judge_14 : decode cX4_judge 14 = .ok (.iconst 0, 1) := by decide +kernel
theorem dX4_judge_15 : decode cX4_judge 15 = .ok (.istore_n 1, 1) := by decide +kernel
theorem dX4_judge_16 : decode cX4_judge 16 = .ok (.iload_n 1, 1) := by decide +kernel
theorem dX4_judge_17 : decode cX4_judge 17 = .ok (.aload_n 0, 1) := by decide +kernel
theorem dX4_judge_18 : decode cX4_judge 18 = .ok (.getfield 56, 3) := by decide +kernel
theorem dX4_judge_21 : decode cX4_judge 21 = .ok (.if_icmp .ge 23, 3) := by decide +kernel
theorem dX4_judge_24 : decode cX4_judge 24 = .ok (.aload_n 0, 1) := by decide +kernel
theorem dX4_judge_25 : decode cX4_judge 25 = .ok (.getfield 34, 3) := by decide +kernel
theorem dX4_judge_28 : decode cX4_judge 28 = .ok (.iload_n 1, 1) := by decide +kernel
theorem dX4_judge_29 : decode cX4_judge 29 = .ok (.aaload, 1) := by decide +kernel
theorem dX4_judge_30 : decode cX4_judge 30 = .ok (.aload_n 0, 1) := by decide +kernel
theorem dX4_judge_31 : decode cX4_judge 31 = .ok (.iload_n 1, 1) := by decide +kernel
theorem dX4_judge_32 : decode cX4_judge 32 = .ok (.invokevirtual 151, 3) := by decide +kernel
theorem dX4_judge_35 : decode cX4_judge 35 = .ok (.putfield 155, 3) := by decide +kernel
theorem dX4_judge_38 : decode cX4_judge 38 = .ok (.iinc 1 1, 3) := by decide +kernel
theorem dX4_judge_41 : decode cX4_judge 41 = .ok (.goto (-25), 3) := by decide +kernel
theorem dX4_judge_44 : decode cX4_judge 44 = .ok (.return_, 1) := by decide +kernel
theorem dX4_judgeSignatures_0 : decode cX4_judgeSignatures 0 = .ok (.iconst 0, 1) := by decide +kernel
theorem dX4_judgeSignatures_1 : decode cX4_judgeSignatures 1 = .ok (.istore_n 1, 1) := by decide +kernel
theorem dX4_judgeSignatures_2 : decode cX4_judgeSignatures 2 = .ok (.iload_n 1, 1) := by decide +kernel
theorem dX4_judgeSignatures_3 : decode cX4_judgeSignatures 3 = .ok (.aload_n 0, 1) := by decide +kernel
theorem dX4_judgeSignatures_4 : decode cX4_judgeSignatures 4 = .ok (.getfield 56, 3) := by decide +kernel
theorem dX4_judgeSignatures_7 : decode cX4_judgeSignatures 7 = .ok (.if_icmp .ge 19, 3) := by decide +kernel
theorem dX4_judgeSignatures_10 : decode cX4_judgeSignatures 10 = .ok (.aload_n 0, 1) := by decide +kernel
theorem dX4_judgeSignatures_11 : decode cX4_judgeSignatures 11 = .ok (.getfield 34, 3) := by decide +kernel
theorem dX4_judgeSignatures_14 : decode cX4_judgeSignatures 14 = .ok (.iload_n 1, 1) := by decide +kernel
theorem dX4_judgeSignatures_15 : decode cX4_judgeSignatures 15 = .ok (.aaload, 1) := by decide +kernel
theorem dX4_judgeSignatures_16 : decode cX4_judgeSignatures 16 = .ok (.iconst 0, 1) := by decide +kernel
theorem dX4_judgeSignatures_17 : decode cX4_judgeSignatures 17 = .ok (.putfield 158, 3) := by decide +kernel
theorem dX4_judgeSignatures_20 : decode cX4_judgeSignatures 20 = .ok (.iinc 1 1, 3) := by decide +kernel
theorem dX4_judgeSignatures_23 : decode cX4_judgeSignatures 23 = .ok (.goto (-21), 3) := by decide +kernel
theorem dX4_judgeSignatures_26 : decode cX4_judgeSignatures 26 = .ok (.iconst 0, 1) := by decide +kernel
theorem dX4_judgeSignatures_27 : decode cX4_judgeSignatures 27 = .ok (.istore_n 1, 1) := by decide +kernel
theorem dX4_judgeSignatures_28 : decode cX4_judgeSignatures 28 = .ok (.iload_n 1, 1) := by decide +kernel
theorem dX4_judgeSignatures_29 : decode cX4_judgeSignatures 29 = .ok (.aload_n 0, 1) := by decide +kernel
theorem dX4_judgeSignatures_30 : decode cX4_judgeSignatures 30 = .ok (.getfield 60, 3) := by decide +kernel
theorem dX4_judgeSignatures_33 : decode cX4_judgeSignatures 33 = .ok (.if_icmp .ge 50, 3) := by decide +kernel
theorem dX4_judgeSignatures_36 : decode cX4_judgeSignatures 36 = .ok (.aload_n 0, 1) := by decide +kernel
theorem dX4_judgeSignatures_37 : decode cX4_judgeSignatures 37 = .ok (.getfield 40, 3) := by decide +kernel
theorem dX4_judgeSignatures_40 : decode cX4_judgeSignatures 40 = .ok (.iload_n 1, 1) := by decide +kernel
theorem dX4_judgeSignatures_41 : decode cX4_judgeSignatures 41 = .ok (.aaload, 1) := by decide +kernel
theorem dX4_judgeSignatures_42 : decode cX4_judgeSignatures 42 = .ok (.astore_n 2, 1) := by decide +kernel
theorem dX4_judgeSignatures_43 : decode cX4_judgeSignatures 43 = .ok (.aload_n 2, 1) := by decide +kernel
theorem dX4_judgeSignatures_44 : decode cX4_judgeSignatures 44 = .ok (.aload_n 0, 1) := by decide +kernel
theorem dX4_judgeSignatures_45 : decode cX4_judgeSignatures 45 = .ok (.aload_n 2, 1) := by decide +kernel
theorem dX4_judgeSignatures_46 : decode cX4_judgeSignatures 46 = .ok (.invokevirtual 161, 3) := by decide +kernel
theorem dX4_judgeSignatures_49 : decode cX4_judgeSignatures 49 = .ok (.putfield 165, 3) := by decide +kernel
theorem dX4_judgeSignatures_52 : decode cX4_judgeSignatures 52 = .ok (.aload_n 2, 1) := by decide +kernel
theorem dX4_judgeSignatures_53 : decode cX4_judgeSignatures 53 = .ok (.getfield 165, 3) := by decide +kernel
theorem dX4_judgeSignatures_56 : decode cX4_judgeSignatures 56 = .ok (.ifCond .ne 21, 3) := by decide +kernel
theorem dX4_judgeSignatures_59 : decode cX4_judgeSignatures 59 = .ok (.aload_n 0, 1) := by decide +kernel
theorem dX4_judgeSignatures_60 : decode cX4_judgeSignatures 60 = .ok (.getfield 34, 3) := by decide +kernel
theorem dX4_judgeSignatures_63 : decode cX4_judgeSignatures 63 = .ok (.aload_n 2, 1) := by decide +kernel
theorem dX4_judgeSignatures_64 : decode cX4_judgeSignatures 64 = .ok (.getfield 168, 3) := by decide +kernel
theorem dX4_judgeSignatures_67 : decode cX4_judgeSignatures 67 = .ok (.aaload, 1) := by decide +kernel
theorem dX4_judgeSignatures_68 : decode cX4_judgeSignatures 68 = .ok (.dup, 1) := by decide +kernel
theorem dX4_judgeSignatures_69 : decode cX4_judgeSignatures 69 = .ok (.getfield 158, 3) := by decide +kernel
theorem dX4_judgeSignatures_72 : decode cX4_judgeSignatures 72 = .ok (.iconst 1, 1) := by decide +kernel
theorem dX4_judgeSignatures_73 : decode cX4_judgeSignatures 73 = .ok (.iadd, 1) := by decide +kernel
theorem dX4_judgeSignatures_74 : decode cX4_judgeSignatures 74 = .ok (.putfield 158, 3) := by decide +kernel
theorem dX4_judgeSignatures_77 : decode cX4_judgeSignatures 77 = .ok (.iinc 1 1, 3) := by decide +kernel
theorem dX4_judgeSignatures_80 : decode cX4_judgeSignatures 80 = .ok (.goto (-52), 3) := by decide +kernel
theorem dX4_judgeSignatures_83 : decode cX4_judgeSignatures 83 = .ok (.return_, 1) := by decide +kernel
theorem dX4_resultOf_0 : decode cX4_resultOf 0 = .ok (.aload_n 1, 1) := by decide +kernel
theorem dX4_resultOf_1 : decode cX4_resultOf 1 = .ok (.getfield 171, 3) := by decide +kernel
theorem dX4_resultOf_4 : decode cX4_resultOf 4 = .ok (.ifCond .ne 5, 3) := by decide +kernel
theorem dX4_resultOf_7 : decode cX4_resultOf 7 = .ok (.iconst 1, 1) := by decide +kernel
theorem dX4_resultOf_8 : decode cX4_resultOf 8 = .ok (.ireturn, 1) := by decide +kernel
theorem dX4_resultOf_9 : decode cX4_resultOf 9 = .ok (.aload_n 0, 1) := by decide +kernel
theorem dX4_resultOf_10 : decode cX4_resultOf 10 = .ok (.getfield 21, 3) := by decide +kernel
theorem dX4_resultOf_13 : decode cX4_resultOf 13 = .ok (.getfield 84, 3) := by decide +kernel
theorem dX4_resultOf_16 : decode cX4_resultOf 16 = .ok (.aload_n 1, 1) := by decide +kernel
theorem dX4_resultOf_17 : decode cX4_resultOf 17 = .ok (.getfield 174, 3) := by decide +kernel
theorem dX4_resultOf_20 : decode cX4_resultOf 20 = .ok (.aaload, 1) := by decide +kernel
theorem dX4_resultOf_21 : decode cX4_resultOf 21 = .ok (.getfield 93, 3) := by decide +kernel
theorem dX4_resultOf_24 : decode cX4_resultOf 24 = .ok (.ifCond .ne 5, 3) := by decide +kernel
theorem dX4_resultOf_27 : decode cX4_resultOf 27 = .ok (.iconst 2, 1) := by decide +kernel
theorem dX4_resultOf_28 : decode cX4_resultOf 28 = .ok (.ireturn, 1) := by decide +kernel
theorem dX4_resultOf_29 : decode cX4_resultOf 29 = .ok (.aload_n 0, 1) := by decide +kernel
theorem dX4_resultOf_30 : decode cX4_resultOf 30 = .ok (.aload_n 1, 1) := by decide +kernel
theorem dX4_resultOf_31 : decode cX4_resultOf 31 = .ok (.getfield 168, 3) := by decide +kernel
theorem dX4_resultOf_34 : decode cX4_resultOf 34 = .ok (.invokevirtual 177, 3) := by decide +kernel
theorem dX4_resultOf_37 : decode cX4_resultOf 37 = .ok (.ifCond .eq 5, 3) := by decide +kernel
theorem dX4_resultOf_40 : decode cX4_resultOf 40 = .ok (.iconst 3, 1) := by decide +kernel
theorem dX4_resultOf_41 : decode cX4_resultOf 41 = .ok (.ireturn, 1) := by decide +kernel
theorem dX4_resultOf_42 : decode cX4_resultOf 42 = .ok (.aload_n 1, 1) := by decide +kernel
theorem dX4_resultOf_43 : decode cX4_resultOf 43 = .ok (.getfield 181, 3) := by decide +kernel
theorem dX4_resultOf_46 : decode cX4_resultOf 46 = .ok (.aload_n 0, 1) := by decide +kernel
theorem dX4_resultOf_47 : decode cX4_resultOf 47 = .ok (.getfield 63, 3) := by decide +kernel
theorem dX4_resultOf_50 : decode cX4_resultOf 50 = .ok (.iconst (-1), 1) := by decide +kernel
theorem dX4_resultOf_51 : decode cX4_resultOf 51 = .ok (.ixor, 1) := by decide +kernel
theorem dX4_resultOf_52 : decode cX4_resultOf 52 = .ok (.iand, 1) := by decide +kernel
theorem dX4_resultOf_53 : decode cX4_resultOf 53 = .ok (.ifCond .eq 7, 3) := by decide +kernel
theorem dX4_resultOf_56 : decode cX4_resultOf 56 = .ok (.iconst 4, 1) := by decide +kernel
theorem dX4_resultOf_57 : decode cX4_resultOf 57 = .ok (.goto 4, 3) := by decide +kernel
theorem dX4_resultOf_60 : decode cX4_resultOf 60 = .ok (.iconst 0, 1) := by decide +kernel
theorem dX4_resultOf_61 : decode cX4_resultOf 61 = .ok (.ireturn, 1) := by decide +kernel
theorem dX4_verdictOn_0 : decode cX4_verdictOn 0 = .ok (.aload_n 0, 1) := by decide +kernel
theorem dX4_verdictOn_1 : decode cX4_verdictOn 1 = .ok (.getfield 34, 3) := by decide +kernel
theorem dX4_verdictOn_4 : decode cX4_verdictOn 4 = .ok (.iload_n 1, 1) := by decide +kernel
theorem dX4_verdictOn_5 : decode cX4_verdictOn 5 = .ok (.aaload, 1) := by decide +kernel
theorem dX4_verdictOn_6 : decode cX4_verdictOn 6 = .ok (.astore_n 2, 1) := by decide +kernel
theorem dX4_verdictOn_7 : decode cX4_verdictOn 7 = .ok (.aload_n 0, 1) := by decide +kernel
theorem dX4_verdictOn_8 : decode cX4_verdictOn 8 = .ok (.getfield 21, 3) := by decide +kernel
theorem dX4_verdictOn_11 : decode cX4_verdictOn 11 = .ok (.getfield 100, 3) := by decide +kernel
theorem dX4_verdictOn_14 : decode cX4_verdictOn 14 = .ok (.aload_n 2, 1) := by decide +kernel
theorem dX4_verdictOn_15 : decode cX4_verdictOn 15 = .ok (.getfield 141, 3) := by decide +kernel
theorem dX4_verdictOn_18 : decode cX4_verdictOn 18 = .ok (.aaload, 1) := by decide +kernel
theorem dX4_verdictOn_19 : decode cX4_verdictOn 19 = .ok (.astore_n 3, 1) := by decide +kernel
theorem dX4_verdictOn_20 : decode cX4_verdictOn 20 = .ok (.aload_n 0, 1) := by decide +kernel
theorem dX4_verdictOn_21 : decode cX4_verdictOn 21 = .ok (.iload_n 1, 1) := by decide +kernel
theorem dX4_verdictOn_22 : decode cX4_verdictOn 22 = .ok (.invokevirtual 177, 3) := by decide +kernel
theorem dX4_verdictOn_25 : decode cX4_verdictOn 25 = .ok (.ifCond .eq 5, 3) := by decide +kernel
theorem dX4_verdictOn_28 : decode cX4_verdictOn 28 = .ok (.iconst 1, 1) := by decide +kernel
theorem dX4_verdictOn_29 : decode cX4_verdictOn 29 = .ok (.ireturn, 1) := by decide +kernel
theorem dX4_verdictOn_30 : decode cX4_verdictOn 30 = .ok (.aload_n 2, 1) := by decide +kernel
theorem dX4_verdictOn_31 : decode cX4_verdictOn 31 = .ok (.getfield 119, 3) := by decide +kernel
theorem dX4_verdictOn_34 : decode cX4_verdictOn 34 = .ok (.aload_n 3, 1) := by decide +kernel
theorem dX4_verdictOn_35 : decode cX4_verdictOn 35 = .ok (.getfield 184, 3) := by decide +kernel
theorem dX4_verdictOn_38 : decode cX4_verdictOn 38 = .ok (.if_icmp .ge 5, 3) := by decide +kernel
theorem dX4_verdictOn_41 : decode cX4_verdictOn 41 = .ok (.iconst 2, 1) := by decide +kernel
theorem dX4_verdictOn_42 : decode cX4_verdictOn 42 = .ok (.ireturn, 1) := by decide +kernel
theorem dX4_verdictOn_43 : decode cX4_verdictOn 43 = .ok (.aload_n 2, 1) := by decide +kernel
theorem dX4_verdictOn_44 : decode cX4_verdictOn 44 = .ok (.getfield 158, 3) := by decide +kernel
theorem dX4_verdictOn_47 : decode cX4_verdictOn 47 = .ok (.aload_n 3, 1) := by decide +kernel
theorem dX4_verdictOn_48 : decode cX4_verdictOn 48 = .ok (.getfield 187, 3) := by decide +kernel
theorem dX4_verdictOn_51 : decode cX4_verdictOn 51 = .ok (.if_icmp .ge 5, 3) := by decide +kernel
theorem dX4_verdictOn_54 : decode cX4_verdictOn 54 = .ok (.iconst 3, 1) := by decide +kernel
theorem dX4_verdictOn_55 : decode cX4_verdictOn 55 = .ok (.ireturn, 1) := by decide +kernel
theorem dX4_verdictOn_56 : decode cX4_verdictOn 56 = .ok (.aload_n 0, 1) := by decide +kernel
theorem dX4_verdictOn_57 : decode cX4_verdictOn 57 = .ok (.iload_n 1, 1) := by decide +kernel
theorem dX4_verdictOn_58 : decode cX4_verdictOn 58 = .ok (.invokevirtual 190, 3) := by decide +kernel
theorem dX4_verdictOn_61 : decode cX4_verdictOn 61 = .ok (.ifCond .eq 7, 3) := by decide +kernel
theorem dX4_verdictOn_64 : decode cX4_verdictOn 64 = .ok (.iconst 4, 1) := by decide +kernel
theorem dX4_verdictOn_65 : decode cX4_verdictOn 65 = .ok (.goto 4, 3) := by decide +kernel
theorem dX4_verdictOn_68 : decode cX4_verdictOn 68 = .ok (.iconst 0, 1) := by decide +kernel
theorem dX4_verdictOn_69 : decode cX4_verdictOn 69 = .ok (.ireturn, 1) := by decide +kernel
theorem dX4_isDouble_0 : decode cX4_isDouble 0 = .ok (.aload_n 0, 1) := by decide +kernel
theorem dX4_isDouble_1 : decode cX4_isDouble 1 = .ok (.getfield 34, 3) := by decide +kernel
theorem dX4_isDouble_4 : decode cX4_isDouble 4 = .ok (.iload_n 1, 1) := by decide +kernel
theorem dX4_isDouble_5 : decode cX4_isDouble 5 = .ok (.aaload, 1) := by decide +kernel
theorem dX4_isDouble_6 : decode cX4_isDouble 6 = .ok (.astore_n 2, 1) := by decide +kernel
theorem dX4_isDouble_7 : decode cX4_isDouble 7 = .ok (.aload_n 2, 1) := by decide +kernel
theorem dX4_isDouble_8 : decode cX4_isDouble 8 = .ok (.getfield 193, 3) := by decide +kernel
theorem dX4_isDouble_11 : decode cX4_isDouble 11 = .ok (.iconst (-1), 1) := by decide +kernel
theorem dX4_isDouble_12 : decode cX4_isDouble 12 = .ok (.if_icmp .ne 5, 3) := by decide +kernel
theorem dX4_isDouble_15 : decode cX4_isDouble 15 = .ok (.iconst 0, 1) := by decide +kernel
theorem dX4_isDouble_16 : decode cX4_isDouble 16 = .ok (.ireturn, 1) := by decide +kernel
theorem dX4_isDouble_17 : decode cX4_isDouble 17 = .ok (.iconst 0, 1) := by decide +kernel
theorem dX4_isDouble_18 : decode cX4_isDouble 18 = .ok (.istore_n 3, 1) := by decide +kernel
theorem dX4_isDouble_19 : decode cX4_isDouble 19 = .ok (.iload_n 3, 1) := by decide +kernel
theorem dX4_isDouble_20 : decode cX4_isDouble 20 = .ok (.iload_n 1, 1) := by decide +kernel
theorem dX4_isDouble_21 : decode cX4_isDouble 21 = .ok (.if_icmp .ge 51, 3) := by decide +kernel
theorem dX4_isDouble_24 : decode cX4_isDouble 24 = .ok (.aload_n 0, 1) := by decide +kernel
theorem dX4_isDouble_25 : decode cX4_isDouble 25 = .ok (.getfield 34, 3) := by decide +kernel
theorem dX4_isDouble_28 : decode cX4_isDouble 28 = .ok (.iload_n 3, 1) := by decide +kernel
theorem dX4_isDouble_29 : decode cX4_isDouble 29 = .ok (.aaload, 1) := by decide +kernel
theorem dX4_isDouble_30 : decode cX4_isDouble 30 = .ok (.astore 4, 2) := by decide +kernel
theorem dX4_isDouble_32 : decode cX4_isDouble 32 = .ok (.aload 4, 2) := by decide +kernel
theorem dX4_isDouble_34 : decode cX4_isDouble 34 = .ok (.getfield 193, 3) := by decide +kernel
theorem dX4_isDouble_37 : decode cX4_isDouble 37 = .ok (.aload_n 2, 1) := by decide +kernel
theorem dX4_isDouble_38 : decode cX4_isDouble 38 = .ok (.getfield 193, 3) := by decide +kernel
theorem dX4_isDouble_41 : decode cX4_isDouble 41 = .ok (.if_icmp .ne 25, 3) := by decide +kernel
theorem dX4_isDouble_44 : decode cX4_isDouble 44 = .ok (.aload 4, 2) := by decide +kernel
theorem dX4_isDouble_46 : decode cX4_isDouble 46 = .ok (.getfield 141, 3) := by decide +kernel
theorem dX4_isDouble_49 : decode cX4_isDouble 49 = .ok (.aload_n 2, 1) := by decide +kernel
theorem dX4_isDouble_50 : decode cX4_isDouble 50 = .ok (.getfield 141, 3) := by decide +kernel
theorem dX4_isDouble_53 : decode cX4_isDouble 53 = .ok (.if_icmp .ne 13, 3) := by decide +kernel
theorem dX4_isDouble_56 : decode cX4_isDouble 56 = .ok (.aload 4, 2) := by decide +kernel
theorem dX4_isDouble_58 : decode cX4_isDouble 58 = .ok (.getfield 155, 3) := by decide +kernel
theorem dX4_isDouble_61 : decode cX4_isDouble 61 = .ok (.ifCond .ne 5, 3) := by decide +kernel
theorem dX4_isDouble_64 : decode cX4_isDouble 64 = .ok (.iconst 1, 1) := by decide +kernel
theorem dX4_isDouble_65 : decode cX4_isDouble 65 = .ok (.ireturn, 1) := by decide +kernel
theorem dX4_isDouble_66 : decode cX4_isDouble 66 = .ok (.iinc 3 1, 3) := by decide +kernel
theorem dX4_isDouble_69 : decode cX4_isDouble 69 = .ok (.goto (-50), 3) := by decide +kernel
theorem dX4_isDouble_72 : decode cX4_isDouble 72 = .ok (.iconst 0, 1) := by decide +kernel
theorem dX4_isDouble_73 : decode cX4_isDouble 73 = .ok (.ireturn, 1) := by decide +kernel
theorem dX4_isWithdrawn_0 : decode cX4_isWithdrawn 0 = .ok (.aload_n 0, 1) := by decide +kernel
theorem dX4_isWithdrawn_1 : decode cX4_isWithdrawn 1 = .ok (.getfield 63, 3) := by decide +kernel
theorem dX4_isWithdrawn_4 : decode cX4_isWithdrawn 4 = .ok (.iconst 1, 1) := by decide +kernel
theorem dX4_isWithdrawn_5 : decode cX4_isWithdrawn 5 = .ok (.iload_n 1, 1) := by decide +kernel
theorem dX4_isWithdrawn_6 : decode cX4_isWithdrawn 6 = .ok (.ishl, 1) := by decide +kernel
theorem dX4_isWithdrawn_7 : decode cX4_isWithdrawn 7 = .ok (.iand, 1) := by decide +kernel
theorem dX4_isWithdrawn_8 : decode cX4_isWithdrawn 8 = .ok (.ifCond .eq 7, 3) := by decide +kernel
theorem dX4_isWithdrawn_11 : decode cX4_isWithdrawn 11 = .ok (.iconst 1, 1) := by decide +kernel
theorem dX4_isWithdrawn_12 : decode cX4_isWithdrawn 12 = .ok (.goto 4, 3) := by decide +kernel
theorem dX4_isWithdrawn_15 : decode cX4_isWithdrawn 15 = .ok (.iconst 0, 1) := by decide +kernel
theorem dX4_isWithdrawn_16 : decode cX4_isWithdrawn 16 = .ok (.ireturn, 1) := by decide +kernel
theorem dX4_isRejected_0 : decode cX4_isRejected 0 = .ok (.aload_n 0, 1) := by decide +kernel
theorem dX4_isRejected_1 : decode cX4_isRejected 1 = .ok (.getfield 34, 3) := by decide +kernel
theorem dX4_isRejected_4 : decode cX4_isRejected 4 = .ok (.iload_n 1, 1) := by decide +kernel
theorem dX4_isRejected_5 : decode cX4_isRejected 5 = .ok (.aaload, 1) := by decide +kernel
theorem dX4_isRejected_6 : decode cX4_isRejected 6 = .ok (.getfield 155, 3) := by decide +kernel
theorem dX4_isRejected_9 : decode cX4_isRejected 9 = .ok (.istore_n 2, 1) := by decide +kernel
theorem dX4_isRejected_10 : decode cX4_isRejected 10 = .ok (.aload_n 0, 1) := by decide +kernel
theorem dX4_isRejected_11 : decode cX4_isRejected 11 = .ok (.getfield 12, 3) := by decide +kernel
theorem dX4_isRejected_14 : decode cX4_isRejected 14 = .ok (.invokevirtual 122, 3) := by decide +kernel
theorem dX4_isRejected_17 : decode cX4_isRejected 17 = .ok (.ifCond .ne 16, 3) := by decide +kernel
theorem dX4_isRejected_20 : decode cX4_isRejected 20 = .ok (.iload_n 2, 1) := by decide +kernel
theorem dX4_isRejected_21 : decode cX4_isRejected 21 = .ok (.ifCond .eq 12, 3) := by decide +kernel
theorem dX4_isRejected_24 : decode cX4_isRejected 24 = .ok (.iload_n 2, 1) := by decide +kernel
theorem dX4_isRejected_25 : decode cX4_isRejected 25 = .ok (.iconst 1, 1) := by decide +kernel
theorem dX4_isRejected_26 : decode cX4_isRejected 26 = .ok (.if_icmp .eq 7, 3) := by decide +kernel
theorem dX4_isRejected_29 : decode cX4_isRejected 29 = .ok (.iconst 1, 1) := by decide +kernel
theorem dX4_isRejected_30 : decode cX4_isRejected 30 = .ok (.goto 4, 3) := by decide +kernel
theorem dX4_isRejected_33 : decode cX4_isRejected 33 = .ok (.iconst 0, 1) := by decide +kernel
theorem dX4_isRejected_34 : decode cX4_isRejected 34 = .ok (.ireturn, 1) := by decide +kernel
theorem dX4_canReplace_0 : decode cX4_canReplace 0 = .ok (.aload_n 0, 1) := by decide +kernel
theorem dX4_canReplace_1 : decode cX4_canReplace 1 = .ok (.getfield 34, 3) := by decide +kernel
theorem dX4_canReplace_4 : decode cX4_canReplace 4 = .ok (.iload_n 1, 1) := by decide +kernel
theorem dX4_canReplace_5 : decode cX4_canReplace 5 = .ok (.aaload, 1) := by decide +kernel
theorem dX4_canReplace_6 : decode cX4_canReplace 6 = .ok (.astore_n 2, 1) := by decide +kernel
theorem dX4_canReplace_7 : decode cX4_canReplace 7 = .ok (.aload_n 2, 1) := by decide +kernel
theorem dX4_canReplace_8 : decode cX4_canReplace 8 = .ok (.getfield 193, 3) := by decide +kernel
theorem dX4_canReplace_11 : decode cX4_canReplace 11 = .ok (.iconst (-1), 1) := by decide +kernel
theorem dX4_canReplace_12 : decode cX4_canReplace 12 = .ok (.if_icmp .eq 58, 3) := by decide +kernel
theorem dX4_canReplace_15 : decode cX4_canReplace 15 = .ok (.aload_n 0, 1) := by decide +kernel
theorem dX4_canReplace_16 : decode cX4_canReplace 16 = .ok (.iload_n 1, 1) := by decide +kernel
theorem dX4_canReplace_17 : decode cX4_canReplace 17 = .ok (.invokevirtual 177, 3) := by decide +kernel
theorem dX4_canReplace_20 : decode cX4_canReplace 20 = .ok (.ifCond .ne 50, 3) := by decide +kernel
theorem dX4_canReplace_23 : decode cX4_canReplace 23 = .ok (.aload_n 0, 1) := by decide +kernel
theorem dX4_canReplace_24 : decode cX4_canReplace 24 = .ok (.iload_n 1, 1) := by decide +kernel
theorem dX4_canReplace_25 : decode cX4_canReplace 25 = .ok (.invokevirtual 196, 3) := by decide +kernel
theorem dX4_canReplace_28 : decode cX4_canReplace 28 = .ok (.ifCond .ne 42, 3) := by decide +kernel
theorem dX4_canReplace_31 : decode cX4_canReplace 31 = .ok (.aload_n 2, 1) := by decide +kernel
theorem dX4_canReplace_32 : decode cX4_canReplace 32 = .ok (.getfield 199, 3) := by decide +kernel
theorem dX4_canReplace_35 : decode cX4_canReplace 35 = .ok (.iconst 2, 1) := by decide +kernel
theorem dX4_canReplace_36 : decode cX4_canReplace 36 = .ok (.if_icmp .ge 34, 3) := by decide +kernel
theorem dX4_canReplace_39 : decode cX4_canReplace 39 = .ok (.aload_n 0, 1) := by decide +kernel
theorem dX4_canReplace_40 : decode cX4_canReplace 40 = .ok (.getfield 12, 3) := by decide +kernel
theorem dX4_canReplace_43 : decode cX4_canReplace 43 = .ok (.invokevirtual 202, 3) := by decide +kernel
theorem dX4_canReplace_46 : decode cX4_canReplace 46 = .ok (.ifCond .eq 24, 3) := by decide +kernel
theorem dX4_canReplace_49 : decode cX4_canReplace 49 = .ok (.aload_n 0, 1) := by decide +kernel
theorem dX4_canReplace_50 : decode cX4_canReplace 50 = .ok (.getfield 12, 3) := by decide +kernel
theorem dX4_canReplace_53 : decode cX4_canReplace 53 = .ok (.invokevirtual 122, 3) := by decide +kernel
theorem dX4_canReplace_56 : decode cX4_canReplace 56 = .ok (.ifCond .ne 10, 3) := by decide +kernel
theorem dX4_canReplace_59 : decode cX4_canReplace 59 = .ok (.aload_n 2, 1) := by decide +kernel
theorem dX4_canReplace_60 : decode cX4_canReplace 60 = .ok (.getfield 129, 3) := by decide +kernel
theorem dX4_canReplace_63 : decode cX4_canReplace 63 = .ok (.ifCond .eq 7, 3) := by decide +kernel
theorem dX4_canReplace_66 : decode cX4_canReplace 66 = .ok (.iconst 1, 1) := by decide +kernel
theorem dX4_canReplace_67 : decode cX4_canReplace 67 = .ok (.goto 4, 3) := by decide +kernel
theorem dX4_canReplace_70 : decode cX4_canReplace 70 = .ok (.iconst 0, 1) := by decide +kernel
theorem dX4_canReplace_71 : decode cX4_canReplace 71 = .ok (.ireturn, 1) := by decide +kernel
theorem dX4_whyNotStanding_0 : decode cX4_whyNotStanding 0 = .ok (.aload_n 0, 1) := by decide +kernel
theorem dX4_whyNotStanding_1 : decode cX4_whyNotStanding 1 = .ok (.getfield 34, 3) := by decide +kernel
theorem dX4_whyNotStanding_4 : decode cX4_whyNotStanding 4 = .ok (.iload_n 1, 1) := by decide +kernel
theorem dX4_whyNotStanding_5 : decode cX4_whyNotStanding 5 = .ok (.aaload, 1) := by decide +kernel
theorem dX4_whyNotStanding_6 : decode cX4_whyNotStanding 6 = .ok (.astore_n 2, 1) := by decide +kernel
theorem dX4_whyNotStanding_7 : decode cX4_whyNotStanding 7 = .ok (.aload_n 0, 1) := by decide +kernel
theorem dX4_whyNotStanding_8 : decode cX4_whyNotStanding 8 = .ok (.iload_n 1, 1) := by decide +kernel
theorem dX4_whyNotStanding_9 : decode cX4_whyNotStanding 9 = .ok (.invokevirtual 177, 3) := by decide +kernel
theorem dX4_whyNotStanding_12 : decode cX4_whyNotStanding 12 = .ok (.ifCond .eq 5, 3) := by decide +kernel
theorem dX4_whyNotStanding_15 : decode cX4_whyNotStanding 15 = .ok (.iconst 1, 1) := by decide +kernel
theorem dX4_whyNotStanding_16 : decode cX4_whyNotStanding 16 = .ok (.ireturn, 1) := by decide +kernel
theorem dX4_whyNotStanding_17 : decode cX4_whyNotStanding 17 = .ok (.aload_n 2, 1) := by decide +kernel
theorem dX4_whyNotStanding_18 : decode cX4_whyNotStanding 18 = .ok (.getfield 155, 3) := by decide +kernel
theorem dX4_whyNotStanding_21 : decode cX4_whyNotStanding 21 = .ok (.ifCond .eq 8, 3) := by decide +kernel
theorem dX4_whyNotStanding_24 : decode cX4_whyNotStanding 24 = .ok (.aload_n 2, 1) := by decide +kernel
theorem dX4_whyNotStanding_25 : decode cX4_whyNotStanding 25 = .ok (.getfield 155, 3) := by decide +kernel
theorem dX4_whyNotStanding_28 : decode cX4_whyNotStanding 28 = .ok (.ireturn, 1) := by decide +kernel
theorem dX4_whyNotStanding_29 : decode cX4_whyNotStanding 29 = .ok (.aload_n 2, 1) := by decide +kernel
theorem dX4_whyNotStanding_30 : decode cX4_whyNotStanding 30 = .ok (.getfield 129, 3) := by decide +kernel
theorem dX4_whyNotStanding_33 : decode cX4_whyNotStanding 33 = .ok (.ifCond .eq 7, 3) := by decide +kernel
theorem dX4_whyNotStanding_36 : decode cX4_whyNotStanding 36 = .ok (.iconst 5, 1) := by decide +kernel
theorem dX4_whyNotStanding_37 : decode cX4_whyNotStanding 37 = .ok (.goto 4, 3) := by decide +kernel
theorem dX4_whyNotStanding_40 : decode cX4_whyNotStanding 40 = .ok (.iconst 0, 1) := by decide +kernel
theorem dX4_whyNotStanding_41 : decode cX4_whyNotStanding 41 = .ok (.ireturn, 1) := by decide +kernel
theorem dX4_countOfOthers_0 : decode cX4_countOfOthers 0 = .ok (.iconst 0, 1) := by decide +kernel
theorem dX4_countOfOthers_1 : decode cX4_countOfOthers 1 = .ok (.istore_n 2, 1) := by decide +kernel
theorem dX4_countOfOthers_2 : decode cX4_countOfOthers 2 = .ok (.iconst 0, 1) := by decide +kernel
theorem dX4_countOfOthers_3 : decode cX4_countOfOthers 3 = .ok (.istore_n 3, 1) := by decide +kernel
theorem dX4_countOfOthers_4 : decode cX4_countOfOthers 4 = .ok (.iload_n 3, 1) := by decide +kernel
theorem dX4_countOfOthers_5 : decode cX4_countOfOthers 5 = .ok (.aload_n 0, 1) := by decide +kernel
theorem dX4_countOfOthers_6 : decode cX4_countOfOthers 6 = .ok (.getfield 56, 3) := by decide +kernel
theorem dX4_countOfOthers_9 : decode cX4_countOfOthers 9 = .ok (.if_icmp .ge 26, 3) := by decide +kernel
theorem dX4_countOfOthers_12 : decode cX4_countOfOthers 12 = .ok (.iload_n 3, 1) := by decide +kernel
theorem dX4_countOfOthers_13 : decode cX4_countOfOthers 13 = .ok (.iload_n 1, 1) := by decide +kernel
theorem dX4_countOfOthers_14 : decode cX4_countOfOthers 14 = .ok (.if_icmp .eq 15, 3) := by decide +kernel
theorem dX4_countOfOthers_17 : decode cX4_countOfOthers 17 = .ok (.iload_n 2, 1) := by decide +kernel
theorem dX4_countOfOthers_18 : decode cX4_countOfOthers 18 = .ok (.aload_n 0, 1) := by decide +kernel
theorem dX4_countOfOthers_19 : decode cX4_countOfOthers 19 = .ok (.getfield 34, 3) := by decide +kernel
theorem dX4_countOfOthers_22 : decode cX4_countOfOthers 22 = .ok (.iload_n 3, 1) := by decide +kernel
theorem dX4_countOfOthers_23 : decode cX4_countOfOthers 23 = .ok (.aaload, 1) := by decide +kernel
theorem dX4_countOfOthers_24 : decode cX4_countOfOthers 24 = .ok (.getfield 158, 3) := by decide +kernel
theorem dX4_countOfOthers_27 : decode cX4_countOfOthers 27 = .ok (.iadd, 1) := by decide +kernel
theorem dX4_countOfOthers_28 : decode cX4_countOfOthers 28 = .ok (.istore_n 2, 1) := by decide +kernel
theorem dX4_countOfOthers_29 : decode cX4_countOfOthers 29 = .ok (.iinc 3 1, 3) := by decide +kernel
theorem dX4_countOfOthers_32 : decode cX4_countOfOthers 32 = .ok (.goto (-28), 3) := by decide +kernel
theorem dX4_countOfOthers_35 : decode cX4_countOfOthers 35 = .ok (.iload_n 2, 1) := by decide +kernel
theorem dX4_countOfOthers_36 : decode cX4_countOfOthers 36 = .ok (.ireturn, 1) := by decide +kernel
theorem dX4_wouldSupport_0 : decode cX4_wouldSupport 0 = .ok (.aload_n 0, 1) := by decide +kernel
theorem dX4_wouldSupport_1 : decode cX4_wouldSupport 1 = .ok (.getfield 21, 3) := by decide +kernel
theorem dX4_wouldSupport_4 : decode cX4_wouldSupport 4 = .ok (.getfield 84, 3) := by decide +kernel
theorem dX4_wouldSupport_7 : decode cX4_wouldSupport 7 = .ok (.iload_n 2, 1) := by decide +kernel
theorem dX4_wouldSupport_8 : decode cX4_wouldSupport 8 = .ok (.aaload, 1) := by decide +kernel
theorem dX4_wouldSupport_9 : decode cX4_wouldSupport 9 = .ok (.astore_n 3, 1) := by decide +kernel
theorem dX4_wouldSupport_10 : decode cX4_wouldSupport 10 = .ok (.aload_n 3, 1) := by decide +kernel
theorem dX4_wouldSupport_11 : decode cX4_wouldSupport 11 = .ok (.getfield 93, 3) := by decide +kernel
theorem dX4_wouldSupport_14 : decode cX4_wouldSupport 14 = .ok (.ifCond .eq 37, 3) := by decide +kernel
theorem dX4_wouldSupport_17 : decode cX4_wouldSupport 17 = .ok (.aload_n 3, 1) := by decide +kernel
theorem dX4_wouldSupport_18 : decode cX4_wouldSupport 18 = .ok (.getfield 88, 3) := by decide +kernel
theorem dX4_wouldSupport_21 : decode cX4_wouldSupport 21 = .ok (.aload_n 0, 1) := by decide +kernel
theorem dX4_wouldSupport_22 : decode cX4_wouldSupport 22 = .ok (.getfield 34, 3) := by decide +kernel
theorem dX4_wouldSupport_25 : decode cX4_wouldSupport 25 = .ok (.iload_n 1, 1) := by decide +kernel
theorem dX4_wouldSupport_26 : decode cX4_wouldSupport 26 = .ok (.aaload, 1) := by decide +kernel
theorem dX4_wouldSupport_27 : decode cX4_wouldSupport 27 = .ok (.getfield 141, 3) := by decide +kernel
theorem dX4_wouldSupport_30 : decode cX4_wouldSupport 30 = .ok (.if_icmp .ne 21, 3) := by decide +kernel
theorem dX4_wouldSupport_33 : decode cX4_wouldSupport 33 = .ok (.aload_n 3, 1) := by decide +kernel
theorem dX4_wouldSupport_34 : decode cX4_wouldSupport 34 = .ok (.getfield 142, 3) := by decide +kernel
theorem dX4_wouldSupport_37 : decode cX4_wouldSupport 37 = .ok (.aload_n 0, 1) := by decide +kernel
theorem dX4_wouldSupport_38 : decode cX4_wouldSupport 38 = .ok (.getfield 63, 3) := by decide +kernel
theorem dX4_wouldSupport_41 : decode cX4_wouldSupport 41 = .ok (.iconst (-1), 1) := by decide +kernel
theorem dX4_wouldSupport_42 : decode cX4_wouldSupport 42 = .ok (.ixor, 1) := by decide +kernel
theorem dX4_wouldSupport_43 : decode cX4_wouldSupport 43 = .ok (.iand, 1) := by decide +kernel
theorem dX4_wouldSupport_44 : decode cX4_wouldSupport 44 = .ok (.ifCond .ne 7, 3) := by decide +kernel
theorem dX4_wouldSupport_47 : decode cX4_wouldSupport 47 = .ok (.iconst 1, 1) := by decide +kernel
theorem dX4_wouldSupport_48 : decode cX4_wouldSupport 48 = .ok (.goto 4, 3) := by decide +kernel
theorem dX4_wouldSupport_51 : decode cX4_wouldSupport 51 = .ok (.iconst 0, 1) := by decide +kernel
theorem dX4_wouldSupport_52 : decode cX4_wouldSupport 52 = .ok (.ireturn, 1) := by decide +kernel
theorem dX4_supportedBy_0 : decode cX4_supportedBy 0 = .ok (.iconst 0, 1) := by decide +kernel
theorem dX4_supportedBy_1 : decode cX4_supportedBy 1 = .ok (.istore_n 2, 1) := by decide +kernel
theorem dX4_supportedBy_2 : decode cX4_supportedBy 2 = .ok (.iload_n 2, 1) := by decide +kernel
theorem dX4_supportedBy_3 : decode cX4_supportedBy 3 = .ok (.aload_n 0, 1) := by decide +kernel
theorem dX4_supportedBy_4 : decode cX4_supportedBy 4 = .ok (.getfield 60, 3) := by decide +kernel
theorem dX4_supportedBy_7 : decode cX4_supportedBy 7 = .ok (.if_icmp .ge 44, 3) := by decide +kernel
theorem dX4_supportedBy_10 : decode cX4_supportedBy 10 = .ok (.aload_n 0, 1) := by decide +kernel
theorem dX4_supportedBy_11 : decode cX4_supportedBy 11 = .ok (.getfield 40, 3) := by decide +kernel
theorem dX4_supportedBy_14 : decode cX4_supportedBy 14 = .ok (.iload_n 2, 1) := by decide +kernel
theorem dX4_supportedBy_15 : decode cX4_supportedBy 15 = .ok (.aaload, 1) := by decide +kernel
theorem dX4_supportedBy_16 : decode cX4_supportedBy 16 = .ok (.getfield 174, 3) := by decide +kernel
theorem dX4_supportedBy_19 : decode cX4_supportedBy 19 = .ok (.iload_n 1, 1) := by decide +kernel
theorem dX4_supportedBy_20 : decode cX4_supportedBy 20 = .ok (.if_icmp .ne 25, 3) := by decide +kernel
theorem dX4_supportedBy_23 : decode cX4_supportedBy 23 = .ok (.aload_n 0, 1) := by decide +kernel
theorem dX4_supportedBy_24 : decode cX4_supportedBy 24 = .ok (.getfield 40, 3) := by decide +kernel
theorem dX4_supportedBy_27 : decode cX4_supportedBy 27 = .ok (.iload_n 2, 1) := by decide +kernel
theorem dX4_supportedBy_28 : decode cX4_supportedBy 28 = .ok (.aaload, 1) := by decide +kernel
theorem dX4_supportedBy_29 : decode cX4_supportedBy 29 = .ok (.getfield 165, 3) := by decide +kernel
theorem dX4_supportedBy_32 : decode cX4_supportedBy 32 = .ok (.ifCond .ne 13, 3) := by decide +kernel
theorem dX4_supportedBy_35 : decode cX4_supportedBy 35 = .ok (.aload_n 0, 1) := by decide +kernel
theorem dX4_supportedBy_36 : decode cX4_supportedBy 36 = .ok (.getfield 40, 3) := by decide +kernel
theorem dX4_supportedBy_39 : decode cX4_supportedBy 39 = .ok (.iload_n 2, 1) := by decide +kernel
theorem dX4_supportedBy_40 : decode cX4_supportedBy 40 = .ok (.aaload, 1) := by decide +kernel
theorem dX4_supportedBy_41 : decode cX4_supportedBy 41 = .ok (.getfield 168, 3) := by decide +kernel
theorem dX4_supportedBy_44 : decode cX4_supportedBy 44 = .ok (.ireturn, 1) := by decide +kernel
theorem dX4_supportedBy_45 : decode cX4_supportedBy 45 = .ok (.iinc 2 1, 3) := by decide +kernel
theorem dX4_supportedBy_48 : decode cX4_supportedBy 48 = .ok (.goto (-46), 3) := by decide +kernel
theorem dX4_supportedBy_51 : decode cX4_supportedBy 51 = .ok (.iconst (-1), 1) := by decide +kernel
theorem dX4_supportedBy_52 : decode cX4_supportedBy 52 = .ok (.ireturn, 1) := by decide +kernel
theorem dX4_freedBy_0 : decode cX4_freedBy 0 = .ok (.aload_n 0, 1) := by decide +kernel
theorem dX4_freedBy_1 : decode cX4_freedBy 1 = .ok (.iload_n 1, 1) := by decide +kernel
theorem dX4_freedBy_2 : decode cX4_freedBy 2 = .ok (.invokevirtual 205, 3) := by decide +kernel
theorem dX4_freedBy_5 : decode cX4_freedBy 5 = .ok (.istore_n 3, 1) := by decide +kernel
theorem dX4_freedBy_6 : decode cX4_freedBy 6 = .ok (.aload_n 0, 1) := by decide +kernel
theorem dX4_freedBy_7 : decode cX4_freedBy 7 = .ok (.iload_n 3, 1) := by decide +kernel
theorem dX4_freedBy_8 : decode cX4_freedBy 8 = .ok (.iconst 1, 1) := by decide +kernel
theorem dX4_freedBy_9 : decode cX4_freedBy 9 = .ok (.iload_n 2, 1) := by decide +kernel
theorem dX4_freedBy_10 : decode cX4_freedBy 10 = .ok (.ishl, 1) := by decide +kernel
theorem dX4_freedBy_11 : decode cX4_freedBy 11 = .ok (.invokevirtual 208, 3) := by decide +kernel
theorem dX4_freedBy_14 : decode cX4_freedBy 14 = .ok (.aload_n 0, 1) := by decide +kernel
theorem dX4_freedBy_15 : decode cX4_freedBy 15 = .ok (.iload_n 3, 1) := by decide +kernel
theorem dX4_freedBy_16 : decode cX4_freedBy 16 = .ok (.iconst 0, 1) := by decide +kernel
theorem dX4_freedBy_17 : decode cX4_freedBy 17 = .ok (.invokevirtual 208, 3) := by decide +kernel
theorem dX4_freedBy_20 : decode cX4_freedBy 20 = .ok (.isub, 1) := by decide +kernel
theorem dX4_freedBy_21 : decode cX4_freedBy 21 = .ok (.ireturn, 1) := by decide +kernel
theorem dX4_smallestSetFor_0 : decode cX4_smallestSetFor 0 = .ok (.aload_n 0, 1) := by decide +kernel
theorem dX4_smallestSetFor_1 : decode cX4_smallestSetFor 1 = .ok (.getfield 21, 3) := by decide +kernel
theorem dX4_smallestSetFor_4 : decode cX4_smallestSetFor 4 = .ok (.getfield 100, 3) := by decide +kernel
theorem dX4_smallestSetFor_7 : decode cX4_smallestSetFor 7 = .ok (.aload_n 0, 1) := by decide +kernel
theorem dX4_smallestSetFor_8 : decode cX4_smallestSetFor 8 = .ok (.getfield 34, 3) := by decide +kernel
theorem dX4_smallestSetFor_11 : decode cX4_smallestSetFor 11 = .ok (.iload_n 1, 1) := by decide +kernel
theorem dX4_smallestSetFor_12 : decode cX4_smallestSetFor 12 = .ok (.aaload, 1) := by decide +kernel
theorem dX4_smallestSetFor_13 : decode cX4_smallestSetFor 13 = .ok (.getfield 141, 3) := by decide +kernel
theorem dX4_smallestSetFor_16 : decode cX4_smallestSetFor 16 = .ok (.aaload, 1) := by decide +kernel
theorem dX4_smallestSetFor_17 : decode cX4_smallestSetFor 17 = .ok (.getfield 187, 3) := by decide +kernel
theorem dX4_smallestSetFor_20 : decode cX4_smallestSetFor 20 = .ok (.istore_n 2, 1) := by decide +kernel
theorem dX4_smallestSetFor_21 : decode cX4_smallestSetFor 21 = .ok (.aload_n 0, 1) := by decide +kernel
theorem dX4_smallestSetFor_22 : decode cX4_smallestSetFor 22 = .ok (.iload_n 1, 1) := by decide +kernel
theorem dX4_smallestSetFor_23 : decode cX4_smallestSetFor 23 = .ok (.invokevirtual 205, 3) := by decide +kernel
theorem dX4_smallestSetFor_26 : decode cX4_smallestSetFor 26 = .ok (.istore_n 3, 1) := by decide +kernel
theorem dX4_smallestSetFor_27 : decode cX4_smallestSetFor 27 = .ok (.aload_n 0, 1) := by decide +kernel
theorem dX4_smallestSetFor_28 : decode cX4_smallestSetFor 28 = .ok (.iload_n 3, 1) := by decide +kernel
theorem dX4_smallestSetFor_29 : decode cX4_smallestSetFor 29 = .ok (.invokevirtual 212, 3) := by decide +kernel
theorem dX4_smallestSetFor_32 : decode cX4_smallestSetFor 32 = .ok (.istore 4, 2) := by decide +kernel
theorem dX4_smallestSetFor_34 : decode cX4_smallestSetFor 34 = .ok (.iconst (-1), 1) := by decide +kernel
theorem dX4_smallestSetFor_35 : decode cX4_smallestSetFor 35 = .ok (.istore 5, 2) := by decide +kernel
theorem dX4_smallestSetFor_37 : decode cX4_smallestSetFor 37 = .ok (.bipush 13, 2) := by decide +kernel
theorem dX4_smallestSetFor_39 : decode cX4_smallestSetFor 39 = .ok (.istore 6, 2) := by decide +kernel
theorem dX4_smallestSetFor_41 : decode cX4_smallestSetFor 41 = .ok (.iconst 0, 1) := by decide +kernel
theorem dX4_smallestSetFor_42 : decode cX4_smallestSetFor 42 = .ok (.istore 7, 2) := by decide +kernel
theorem dX4_smallestSetFor_44 : decode cX4_smallestSetFor 44 = .ok (.iload 7, 2) := by decide +kernel
theorem dX4_smallestSetFor_46 : decode cX4_smallestSetFor 46 = .ok (.iload 4, 2) := by decide +kernel
theorem dX4_smallestSetFor_48 : decode cX4_smallestSetFor 48 = .ok (.if_icmp .gt 51, 3) := by decide +kernel
theorem dX4_smallestSetFor_51 : decode cX4_smallestSetFor 51 = .ok (.iload 7, 2) := by decide +kernel
theorem dX4_smallestSetFor_53 : decode cX4_smallestSetFor 53 = .ok (.iload 4, 2) := by decide +kernel
theorem dX4_smallestSetFor_55 : decode cX4_smallestSetFor 55 = .ok (.iconst (-1), 1) := by decide +kernel
theorem dX4_smallestSetFor_56 : decode cX4_smallestSetFor 56 = .ok (.ixor, 1) := by decide +kernel
theorem dX4_smallestSetFor_57 : decode cX4_smallestSetFor 57 = .ok (.iand, 1) := by decide +kernel
theorem dX4_smallestSetFor_58 : decode cX4_smallestSetFor 58 = .ok (.ifCond .ne 35, 3) := by decide +kernel
theorem dX4_smallestSetFor_61 : decode cX4_smallestSetFor 61 = .ok (.iload 7, 2) := by decide +kernel
theorem dX4_smallestSetFor_63 : decode cX4_smallestSetFor 63 = .ok (.invokestatic 215, 3) := by decide +kernel
theorem dX4_smallestSetFor_66 : decode cX4_smallestSetFor 66 = .ok (.iload 6, 2) := by decide +kernel
theorem dX4_smallestSetFor_68 : decode cX4_smallestSetFor 68 = .ok (.if_icmp .ge 25, 3) := by decide +kernel
theorem dX4_smallestSetFor_71 : decode cX4_smallestSetFor 71 = .ok (.aload_n 0, 1) := by decide +kernel
theorem dX4_smallestSetFor_72 : decode cX4_smallestSetFor 72 = .ok (.iload_n 3, 1) := by decide +kernel
theorem dX4_smallestSetFor_73 : decode cX4_smallestSetFor 73 = .ok (.iload 7, 2) := by decide +kernel
theorem dX4_smallestSetFor_75 : decode cX4_smallestSetFor 75 = .ok (.invokevirtual 208, 3) := by decide +kernel
theorem dX4_smallestSetFor_78 : decode cX4_smallestSetFor 78 = .ok (.iload_n 2, 1) := by decide +kernel
theorem dX4_smallestSetFor_79 : decode cX4_smallestSetFor 79 = .ok (.if_icmp .lt 14, 3) := by decide +kernel
theorem dX4_smallestSetFor_82 : decode cX4_smallestSetFor 82 = .ok (.iload 7, 2) := by decide +kernel
theorem dX4_smallestSetFor_84 : decode cX4_smallestSetFor 84 = .ok (.istore 5, 2) := by decide +kernel
theorem dX4_smallestSetFor_86 : decode cX4_smallestSetFor 86 = .ok (.iload 7, 2) := by decide +kernel
theorem dX4_smallestSetFor_88 : decode cX4_smallestSetFor 88 = .ok (.invokestatic 215, 3) := by decide +kernel
theorem dX4_smallestSetFor_91 : decode cX4_smallestSetFor 91 = .ok (.istore 6, 2) := by decide +kernel
theorem dX4_smallestSetFor_93 : decode cX4_smallestSetFor 93 = .ok (.iinc 7 1, 3) := by decide +kernel
theorem dX4_smallestSetFor_96 : decode cX4_smallestSetFor 96 = .ok (.goto (-52), 3) := by decide +kernel
theorem dX4_smallestSetFor_99 : decode cX4_smallestSetFor 99 = .ok (.iload 5, 2) := by decide +kernel
theorem dX4_smallestSetFor_101 : decode cX4_smallestSetFor 101 = .ok (.ireturn, 1) := by decide +kernel
theorem dX4_gatherBlockers_0 : decode cX4_gatherBlockers 0 = .ok (.iconst 0, 1) := by decide +kernel
theorem dX4_gatherBlockers_1 : decode cX4_gatherBlockers 1 = .ok (.istore_n 2, 1) := by decide +kernel
theorem dX4_gatherBlockers_2 : decode cX4_gatherBlockers 2 = .ok (.iconst 0, 1) := by decide +kernel
theorem dX4_gatherBlockers_3 : decode cX4_gatherBlockers 3 = .ok (.istore_n 3, 1) := by decide +kernel
theorem dX4_gatherBlockers_4 : decode cX4_gatherBlockers 4 = .ok (.iload_n 3, 1) := by decide +kernel
theorem dX4_gatherBlockers_5 : decode cX4_gatherBlockers 5 = .ok (.aload_n 0, 1) := by decide +kernel
theorem dX4_gatherBlockers_6 : decode cX4_gatherBlockers 6 = .ok (.getfield 60, 3) := by decide +kernel
theorem dX4_gatherBlockers_9 : decode cX4_gatherBlockers 9 = .ok (.if_icmp .ge 86, 3) := by decide +kernel
theorem dX4_gatherBlockers_12 : decode cX4_gatherBlockers 12 = .ok (.aload_n 0, 1) := by decide +kernel
theorem dX4_gatherBlockers_13 : decode cX4_gatherBlockers 13 = .ok (.getfield 40, 3) := by decide +kernel
theorem dX4_gatherBlockers_16 : decode cX4_gatherBlockers 16 = .ok (.iload_n 3, 1) := by decide +kernel
theorem dX4_gatherBlockers_17 : decode cX4_gatherBlockers 17 = .ok (.aaload, 1) := by decide +kernel
theorem dX4_gatherBlockers_18 : decode cX4_gatherBlockers 18 = .ok (.astore 4, 2) := by decide +kernel
theorem dX4_gatherBlockers_20 : decode cX4_gatherBlockers 20 = .ok (.aload 4, 2) := by decide +kernel
theorem dX4_gatherBlockers_22 : decode cX4_gatherBlockers 22 = .ok (.getfield 168, 3) := by decide +kernel
theorem dX4_gatherBlockers_25 : decode cX4_gatherBlockers 25 = .ok (.iload_n 1, 1) := by decide +kernel
theorem dX4_gatherBlockers_26 : decode cX4_gatherBlockers 26 = .ok (.if_icmp .ne 63, 3) := by decide +kernel
theorem dX4_gatherBlockers_29 : decode cX4_gatherBlockers 29 = .ok (.aload 4, 2) := by decide +kernel
theorem dX4_gatherBlockers_31 : decode cX4_gatherBlockers 31 = .ok (.getfield 171, 3) := by decide +kernel
theorem dX4_gatherBlockers_34 : decode cX4_gatherBlockers 34 = .ok (.ifCond .eq 55, 3) := by decide +kernel
theorem dX4_gatherBlockers_37 : decode cX4_gatherBlockers 37 = .ok (.aload_n 0, 1) := by decide +kernel
theorem dX4_gatherBlockers_38 : decode cX4_gatherBlockers 38 = .ok (.getfield 21, 3) := by decide +kernel
theorem dX4_gatherBlockers_41 : decode cX4_gatherBlockers 41 = .ok (.getfield 84, 3) := by decide +kernel
theorem dX4_gatherBlockers_44 : decode cX4_gatherBlockers 44 = .ok (.aload 4, 2) := by decide +kernel
theorem dX4_gatherBlockers_46 : decode cX4_gatherBlockers 46 = .ok (.getfield 174, 3) := by decide +kernel
theorem dX4_gatherBlockers_49 : decode cX4_gatherBlockers 49 = .ok (.aaload, 1) := by decide +kernel
theorem dX4_gatherBlockers_50 : decode cX4_gatherBlockers 50 = .ok (.getfield 93, 3) := by decide +kernel
theorem dX4_gatherBlockers_53 : decode cX4_gatherBlockers 53 = .ok (.ifCond .eq 36, 3) := by decide +kernel
theorem dX4_gatherBlockers_56 : decode cX4_gatherBlockers 56 = .ok (.aload 4, 2) := by decide +kernel
theorem dX4_gatherBlockers_58 : decode cX4_gatherBlockers 58 = .ok (.getfield 181, 3) := by decide +kernel
theorem dX4_gatherBlockers_61 : decode cX4_gatherBlockers 61 = .ok (.iconst 1, 1) := by decide +kernel
theorem dX4_gatherBlockers_62 : decode cX4_gatherBlockers 62 = .ok (.iload_n 1, 1) := by decide +kernel
theorem dX4_gatherBlockers_63 : decode cX4_gatherBlockers 63 = .ok (.ishl, 1) := by decide +kernel
theorem dX4_gatherBlockers_64 : decode cX4_gatherBlockers 64 = .ok (.iand, 1) := by decide +kernel
theorem dX4_gatherBlockers_65 : decode cX4_gatherBlockers 65 = .ok (.ifCond .ne 24, 3) := by decide +kernel
theorem dX4_gatherBlockers_68 : decode cX4_gatherBlockers 68 = .ok (.aload_n 0, 1) := by decide +kernel
theorem dX4_gatherBlockers_69 : decode cX4_gatherBlockers 69 = .ok (.getfield 44, 3) := by decide +kernel
theorem dX4_gatherBlockers_72 : decode cX4_gatherBlockers 72 = .ok (.iload_n 2, 1) := by decide +kernel
theorem dX4_gatherBlockers_73 : decode cX4_gatherBlockers 73 = .ok (.aload 4, 2) := by decide +kernel
theorem dX4_gatherBlockers_75 : decode cX4_gatherBlockers 75 = .ok (.getfield 181, 3) := by decide +kernel
theorem dX4_gatherBlockers_78 : decode cX4_gatherBlockers 78 = .ok (.aload_n 0, 1) := by decide +kernel
theorem dX4_gatherBlockers_79 : decode cX4_gatherBlockers 79 = .ok (.getfield 63, 3) := by decide +kernel
theorem dX4_gatherBlockers_82 : decode cX4_gatherBlockers 82 = .ok (.iconst (-1), 1) := by decide +kernel
theorem dX4_gatherBlockers_83 : decode cX4_gatherBlockers 83 = .ok (.ixor, 1) := by decide +kernel
theorem dX4_gatherBlockers_84 : decode cX4_gatherBlockers 84 = .ok (.iand, 1) := by decide +kernel
theorem dX4_gatherBlockers_85 : decode cX4_gatherBlockers 85 = .ok (.iastore, 1) := by decide +kernel
theorem dX4_gatherBlockers_86 : decode cX4_gatherBlockers 86 = .ok (.iinc 2 1, 3) := by decide +kernel
theorem dX4_gatherBlockers_89 : decode cX4_gatherBlockers 89 = .ok (.iinc 3 1, 3) := by decide +kernel
theorem dX4_gatherBlockers_92 : decode cX4_gatherBlockers 92 = .ok (.goto (-88), 3) := by decide +kernel
theorem dX4_gatherBlockers_95 : decode cX4_gatherBlockers 95 = .ok (.iload_n 2, 1) := by decide +kernel
theorem dX4_gatherBlockers_96 : decode cX4_gatherBlockers 96 = .ok (.ireturn, 1) := by decide +kernel
theorem dX4_allBlockers_0 : decode cX4_allBlockers 0 = .ok (.iconst 0, 1) := by decide +kernel
theorem dX4_allBlockers_1 : decode cX4_allBlockers 1 = .ok (.istore_n 2, 1) := by decide +kernel
theorem dX4_allBlockers_2 : decode cX4_allBlockers 2 = .ok (.iconst 0, 1) := by decide +kernel
theorem dX4_allBlockers_3 : decode cX4_allBlockers 3 = .ok (.istore_n 3, 1) := by decide +kernel
theorem dX4_allBlockers_4 : decode cX4_allBlockers 4 = .ok (.iload_n 3, 1) := by decide +kernel
theorem dX4_allBlockers_5 : decode cX4_allBlockers 5 = .ok (.iload_n 1, 1) := by decide +kernel
theorem dX4_allBlockers_6 : decode cX4_allBlockers 6 = .ok (.if_icmp .ge 18, 3) := by decide +kernel
theorem dX4_allBlockers_9 : decode cX4_allBlockers 9 = .ok (.iload_n 2, 1) := by decide +kernel
theorem dX4_allBlockers_10 : decode cX4_allBlockers 10 = .ok (.aload_n 0, 1) := by decide +kernel
theorem dX4_allBlockers_11 : decode cX4_allBlockers 11 = .ok (.getfield 44, 3) := by decide +kernel
theorem dX4_allBlockers_14 : decode cX4_allBlockers 14 = .ok (.iload_n 3, 1) := by decide +kernel
theorem dX4_allBlockers_15 : decode cX4_allBlockers 15 = .ok (.iaload, 1) := by decide +kernel
theorem dX4_allBlockers_16 : decode cX4_allBlockers 16 = .ok (.ior, 1) := by decide +kernel
theorem dX4_allBlockers_17 : decode cX4_allBlockers 17 = .ok (.istore_n 2, 1) := by decide +kernel
theorem dX4_allBlockers_18 : decode cX4_allBlockers 18 = .ok (.iinc 3 1, 3) := by decide +kernel
theorem dX4_allBlockers_21 : decode cX4_allBlockers 21 = .ok (.goto (-17), 3) := by decide +kernel
theorem dX4_allBlockers_24 : decode cX4_allBlockers 24 = .ok (.iload_n 2, 1) := by decide +kernel
theorem dX4_allBlockers_25 : decode cX4_allBlockers 25 = .ok (.ireturn, 1) := by decide +kernel
theorem dX4_countWithout_0 : decode cX4_countWithout 0 = .ok (.iconst 0, 1) := by decide +kernel
theorem dX4_countWithout_1 : decode cX4_countWithout 1 = .ok (.istore_n 3, 1) := by decide +kernel
theorem dX4_countWithout_2 : decode cX4_countWithout 2 = .ok (.iconst 0, 1) := by decide +kernel
theorem dX4_countWithout_3 : decode cX4_countWithout 3 = .ok (.istore 4, 2) := by decide +kernel
theorem dX4_countWithout_5 : decode cX4_countWithout 5 = .ok (.iload 4, 2) := by decide +kernel
theorem dX4_countWithout_7 : decode cX4_countWithout 7 = .ok (.iload_n 1, 1) := by decide +kernel
theorem dX4_countWithout_8 : decode cX4_countWithout 8 = .ok (.if_icmp .ge 26, 3) := by decide +kernel
theorem dX4_countWithout_11 : decode cX4_countWithout 11 = .ok (.aload_n 0, 1) := by decide +kernel
theorem dX4_countWithout_12 : decode cX4_countWithout 12 = .ok (.getfield 44, 3) := by decide +kernel
theorem dX4_countWithout_15 : decode cX4_countWithout 15 = .ok (.iload 4, 2) := by decide +kernel
theorem dX4_countWithout_17 : decode cX4_countWithout 17 = .ok (.iaload, 1) := by decide +kernel
theorem dX4_countWithout_18 : decode cX4_countWithout 18 = .ok (.iload_n 2, 1) := by decide +kernel
theorem dX4_countWithout_19 : decode cX4_countWithout 19 = .ok (.iconst (-1), 1) := by decide +kernel
theorem dX4_countWithout_20 : decode cX4_countWithout 20 = .ok (.ixor, 1) := by decide +kernel
theorem dX4_countWithout_21 : decode cX4_countWithout 21 = .ok (.iand, 1) := by decide +kernel
theorem dX4_countWithout_22 : decode cX4_countWithout 22 = .ok (.ifCond .ne 6, 3) := by decide +kernel
theorem dX4_countWithout_25 : decode cX4_countWithout 25 = .ok (.iinc 3 1, 3) := by decide +kernel
theorem dX4_countWithout_28 : decode cX4_countWithout 28 = .ok (.iinc 4 1, 3) := by decide +kernel
theorem dX4_countWithout_31 : decode cX4_countWithout 31 = .ok (.goto (-26), 3) := by decide +kernel
theorem dX4_countWithout_34 : decode cX4_countWithout 34 = .ok (.iload_n 3, 1) := by decide +kernel
theorem dX4_countWithout_35 : decode cX4_countWithout 35 = .ok (.ireturn, 1) := by decide +kernel
theorem dX4_standsIn_0 : decode cX4_standsIn 0 = .ok (.aload_n 0, 1) := by decide +kernel
theorem dX4_standsIn_1 : decode cX4_standsIn 1 = .ok (.getfield 34, 3) := by decide +kernel
theorem dX4_standsIn_4 : decode cX4_standsIn 4 = .ok (.iload_n 1, 1) := by decide +kernel
theorem dX4_standsIn_5 : decode cX4_standsIn 5 = .ok (.aaload, 1) := by decide +kernel
theorem dX4_standsIn_6 : decode cX4_standsIn 6 = .ok (.getfield 141, 3) := by decide +kernel
theorem dX4_standsIn_9 : decode cX4_standsIn 9 = .ok (.iload_n 2, 1) := by decide +kernel
theorem dX4_standsIn_10 : decode cX4_standsIn 10 = .ok (.if_icmp .ne 15, 3) := by decide +kernel
theorem dX4_standsIn_13 : decode cX4_standsIn 13 = .ok (.aload_n 0, 1) := by decide +kernel
theorem dX4_standsIn_14 : decode cX4_standsIn 14 = .ok (.iload_n 1, 1) := by decide +kernel
theorem dX4_standsIn_15 : decode cX4_standsIn 15 = .ok (.invokevirtual 220, 3) := by decide +kernel
theorem dX4_standsIn_18 : decode cX4_standsIn 18 = .ok (.ifCond .ne 7, 3) := by decide +kernel
theorem dX4_standsIn_21 : decode cX4_standsIn 21 = .ok (.iconst 1, 1) := by decide +kernel
theorem dX4_standsIn_22 : decode cX4_standsIn 22 = .ok (.goto 4, 3) := by decide +kernel
theorem dX4_standsIn_25 : decode cX4_standsIn 25 = .ok (.iconst 0, 1) := by decide +kernel
theorem dX4_standsIn_26 : decode cX4_standsIn 26 = .ok (.ireturn, 1) := by decide +kernel
theorem dX4_countStanding_0 : decode cX4_countStanding 0 = .ok (.iconst 0, 1) := by decide +kernel
theorem dX4_countStanding_1 : decode cX4_countStanding 1 = .ok (.istore_n 2, 1) := by decide +kernel
theorem dX4_countStanding_2 : decode cX4_countStanding 2 = .ok (.iconst 0, 1) := by decide +kernel
theorem dX4_countStanding_3 : decode cX4_countStanding 3 = .ok (.istore_n 3, 1) := by decide +kernel
theorem dX4_countStanding_4 : decode cX4_countStanding 4 = .ok (.iload_n 3, 1) := by decide +kernel
theorem dX4_countStanding_5 : decode cX4_countStanding 5 = .ok (.aload_n 0, 1) := by decide +kernel
theorem dX4_countStanding_6 : decode cX4_countStanding 6 = .ok (.getfield 56, 3) := by decide +kernel
theorem dX4_countStanding_9 : decode cX4_countStanding 9 = .ok (.if_icmp .ge 21, 3) := by decide +kernel
theorem dX4_countStanding_12 : decode cX4_countStanding 12 = .ok (.aload_n 0, 1) := by decide +kernel
theorem dX4_countStanding_13 : decode cX4_countStanding 13 = .ok (.iload_n 3, 1) := by decide +kernel
theorem dX4_countStanding_14 : decode cX4_countStanding 14 = .ok (.iload_n 1, 1) := by decide +kernel
theorem dX4_countStanding_15 : decode cX4_countStanding 15 = .ok (.invokevirtual 223, 3) := by decide +kernel
theorem dX4_countStanding_18 : decode cX4_countStanding 18 = .ok (.ifCond .eq 6, 3) := by decide +kernel
theorem dX4_countStanding_21 : decode cX4_countStanding 21 = .ok (.iinc 2 1, 3) := by decide +kernel
theorem dX4_countStanding_24 : decode cX4_countStanding 24 = .ok (.iinc 3 1, 3) := by decide +kernel
theorem dX4_countStanding_27 : decode cX4_countStanding 27 = .ok (.goto (-23), 3) := by decide +kernel
theorem dX4_countStanding_30 : decode cX4_countStanding 30 = .ok (.iload_n 2, 1) := by decide +kernel
theorem dX4_countStanding_31 : decode cX4_countStanding 31 = .ok (.ireturn, 1) := by decide +kernel
theorem dX4_paperAt_0 : decode cX4_paperAt 0 = .ok (.iconst 0, 1) := by decide +kernel
theorem dX4_paperAt_1 : decode cX4_paperAt 1 = .ok (.istore_n 3, 1) := by decide +kernel
theorem dX4_paperAt_2 : decode cX4_paperAt 2 = .ok (.iload_n 3, 1) := by decide +kernel
theorem dX4_paperAt_3 : decode cX4_paperAt 3 = .ok (.aload_n 0, 1) := by decide +kernel
theorem dX4_paperAt_4 : decode cX4_paperAt 4 = .ok (.getfield 56, 3) := by decide +kernel
theorem dX4_paperAt_7 : decode cX4_paperAt 7 = .ok (.if_icmp .ge 29, 3) := by decide +kernel
theorem dX4_paperAt_10 : decode cX4_paperAt 10 = .ok (.aload_n 0, 1) := by decide +kernel
theorem dX4_paperAt_11 : decode cX4_paperAt 11 = .ok (.iload_n 3, 1) := by decide +kernel
theorem dX4_paperAt_12 : decode cX4_paperAt 12 = .ok (.iload_n 1, 1) := by decide +kernel
theorem dX4_paperAt_13 : decode cX4_paperAt 13 = .ok (.invokevirtual 223, 3) := by decide +kernel
theorem dX4_paperAt_16 : decode cX4_paperAt 16 = .ok (.ifCond .eq 14, 3) := by decide +kernel
theorem dX4_paperAt_19 : decode cX4_paperAt 19 = .ok (.aload_n 0, 1) := by decide +kernel
theorem dX4_paperAt_20 : decode cX4_paperAt 20 = .ok (.iload_n 3, 1) := by decide +kernel
theorem dX4_paperAt_21 : decode cX4_paperAt 21 = .ok (.invokevirtual 227, 3) := by decide +kernel
theorem dX4_paperAt_24 : decode cX4_paperAt 24 = .ok (.iload_n 2, 1) := by decide +kernel
theorem dX4_paperAt_25 : decode cX4_paperAt 25 = .ok (.if_icmp .ne 5, 3) := by decide +kernel
theorem dX4_paperAt_28 : decode cX4_paperAt 28 = .ok (.iload_n 3, 1) := by decide +kernel
theorem dX4_paperAt_29 : decode cX4_paperAt 29 = .ok (.ireturn, 1) := by decide +kernel
theorem dX4_paperAt_30 : decode cX4_paperAt 30 = .ok (.iinc 3 1, 3) := by decide +kernel
theorem dX4_paperAt_33 : decode cX4_paperAt 33 = .ok (.goto (-31), 3) := by decide +kernel
theorem dX4_paperAt_36 : decode cX4_paperAt 36 = .ok (.iconst (-1), 1) := by decide +kernel
theorem dX4_paperAt_37 : decode cX4_paperAt 37 = .ok (.ireturn, 1) := by decide +kernel
theorem dX4_placeOnList_0 : decode cX4_placeOnList 0 = .ok (.iconst 0, 1) := by decide +kernel
theorem dX4_placeOnList_1 : decode cX4_placeOnList 1 = .ok (.istore_n 2, 1) := by decide +kernel
theorem dX4_placeOnList_2 : decode cX4_placeOnList 2 = .ok (.iconst 0, 1) := by decide +kernel
theorem dX4_placeOnList_3 : decode cX4_placeOnList 3 = .ok (.istore_n 3, 1) := by decide +kernel
theorem dX4_placeOnList_4 : decode cX4_placeOnList 4 = .ok (.iload_n 3, 1) := by decide +kernel
theorem dX4_placeOnList_5 : decode cX4_placeOnList 5 = .ok (.aload_n 0, 1) := by decide +kernel
theorem dX4_placeOnList_6 : decode cX4_placeOnList 6 = .ok (.getfield 56, 3) := by decide +kernel
theorem dX4_placeOnList_9 : decode cX4_placeOnList 9 = .ok (.if_icmp .ge 38, 3) := by decide +kernel
theorem dX4_placeOnList_12 : decode cX4_placeOnList 12 = .ok (.aload_n 0, 1) := by decide +kernel
theorem dX4_placeOnList_13 : decode cX4_placeOnList 13 = .ok (.iload_n 3, 1) := by decide +kernel
theorem dX4_placeOnList_14 : decode cX4_placeOnList 14 = .ok (.aload_n 0, 1) := by decide +kernel
theorem dX4_placeOnList_15 : decode cX4_placeOnList 15 = .ok (.getfield 34, 3) := by decide +kernel
theorem dX4_placeOnList_18 : decode cX4_placeOnList 18 = .ok (.iload_n 1, 1) := by decide +kernel
theorem dX4_placeOnList_19 : decode cX4_placeOnList 19 = .ok (.aaload, 1) := by decide +kernel
theorem dX4_placeOnList_20 : decode cX4_placeOnList 20 = .ok (.getfield 141, 3) := by decide +kernel
theorem dX4_placeOnList_23 : decode cX4_placeOnList 23 = .ok (.invokevirtual 223, 3) := by decide +kernel
theorem dX4_placeOnList_26 : decode cX4_placeOnList 26 = .ok (.ifCond .eq 15, 3) := by decide +kernel
theorem dX4_placeOnList_29 : decode cX4_placeOnList 29 = .ok (.aload_n 0, 1) := by decide +kernel
theorem dX4_placeOnList_30 : decode cX4_placeOnList 30 = .ok (.iload_n 3, 1) := by decide +kernel
theorem dX4_placeOnList_31 : decode cX4_placeOnList 31 = .ok (.iload_n 1, 1) := by decide +kernel
theorem dX4_placeOnList_32 : decode cX4_placeOnList 32 = .ok (.invokevirtual 230, 3) := by decide +kernel
theorem dX4_placeOnList_35 : decode cX4_placeOnList 35 = .ok (.ifCond .eq 6, 3) := by decide +kernel
theorem dX4_placeOnList_38 : decode cX4_placeOnList 38 = .ok (.iinc 2 1, 3) := by decide +kernel
theorem dX4_placeOnList_41 : decode cX4_placeOnList 41 = .ok (.iinc 3 1, 3) := by decide +kernel
theorem dX4_placeOnList_44 : decode cX4_placeOnList 44 = .ok (.goto (-40), 3) := by decide +kernel
theorem dX4_placeOnList_47 : decode cX4_placeOnList 47 = .ok (.iload_n 2, 1) := by decide +kernel
theorem dX4_placeOnList_48 : decode cX4_placeOnList 48 = .ok (.ireturn, 1) := by decide +kernel
theorem dX4_comesBefore_0 : decode cX4_comesBefore 0 = .ok (.aload_n 0, 1) := by decide +kernel
theorem dX4_comesBefore_1 : decode cX4_comesBefore 1 = .ok (.getfield 28, 3) := by decide +kernel
theorem dX4_comesBefore_4 : decode cX4_comesBefore 4 = .ok (.aload_n 0, 1) := by decide +kernel
theorem dX4_comesBefore_5 : decode cX4_comesBefore 5 = .ok (.getfield 34, 3) := by decide +kernel
theorem dX4_comesBefore_8 : decode cX4_comesBefore 8 = .ok (.iload_n 1, 1) := by decide +kernel
theorem dX4_comesBefore_9 : decode cX4_comesBefore 9 = .ok (.aaload, 1) := by decide +kernel
theorem dX4_comesBefore_10 : decode cX4_comesBefore 10 = .ok (.getfield 233, 3) := by decide +kernel
theorem dX4_comesBefore_13 : decode cX4_comesBefore 13 = .ok (.invokevirtual 236, 3) := by decide +kernel
theorem dX4_comesBefore_16 : decode cX4_comesBefore 16 = .ok (.istore_n 3, 1) := by decide +kernel
theorem dX4_comesBefore_17 : decode cX4_comesBefore 17 = .ok (.aload_n 0, 1) := by decide +kernel
theorem dX4_comesBefore_18 : decode cX4_comesBefore 18 = .ok (.getfield 28, 3) := by decide +kernel
theorem dX4_comesBefore_21 : decode cX4_comesBefore 21 = .ok (.aload_n 0, 1) := by decide +kernel
theorem dX4_comesBefore_22 : decode cX4_comesBefore 22 = .ok (.getfield 34, 3) := by decide +kernel
theorem dX4_comesBefore_25 : decode cX4_comesBefore 25 = .ok (.iload_n 2, 1) := by decide +kernel
theorem dX4_comesBefore_26 : decode cX4_comesBefore 26 = .ok (.aaload, 1) := by decide +kernel
theorem dX4_comesBefore_27 : decode cX4_comesBefore 27 = .ok (.getfield 233, 3) := by decide +kernel
theorem dX4_comesBefore_30 : decode cX4_comesBefore 30 = .ok (.invokevirtual 236, 3) := by decide +kernel
theorem dX4_comesBefore_33 : decode cX4_comesBefore 33 = .ok (.istore 4, 2) := by decide +kernel
theorem dX4_comesBefore_35 : decode cX4_comesBefore 35 = .ok (.iload_n 3, 1) := by decide +kernel
theorem dX4_comesBefore_36 : decode cX4_comesBefore 36 = .ok (.iload 4, 2) := by decide +kernel
theorem dX4_comesBefore_38 : decode cX4_comesBefore 38 = .ok (.if_icmp .lt 14, 3) := by decide +kernel
theorem dX4_comesBefore_41 : decode cX4_comesBefore 41 = .ok (.iload_n 3, 1) := by decide +kernel
theorem dX4_comesBefore_42 : decode cX4_comesBefore 42 = .ok (.iload 4, 2) := by decide +kernel
theorem dX4_comesBefore_44 : decode cX4_comesBefore 44 = .ok (.if_icmp .ne 12, 3) := by decide +kernel
theorem dX4_comesBefore_47 : decode cX4_comesBefore 47 = .ok (.iload_n 1, 1) := by decide +kernel
theorem dX4_comesBefore_48 : decode cX4_comesBefore 48 = .ok (.iload_n 2, 1) := by decide +kernel
theorem dX4_comesBefore_49 : decode cX4_comesBefore 49 = .ok (.if_icmp .ge 7, 3) := by decide +kernel
theorem dX4_comesBefore_52 : decode cX4_comesBefore 52 = .ok (.iconst 1, 1) := by decide +kernel
theorem dX4_comesBefore_53 : decode cX4_comesBefore 53 = .ok (.goto 4, 3) := by decide +kernel
theorem dX4_comesBefore_56 : decode cX4_comesBefore 56 = .ok (.iconst 0, 1) := by decide +kernel
theorem dX4_comesBefore_57 : decode cX4_comesBefore 57 = .ok (.ireturn, 1) := by decide +kernel
theorem dX4_votesIn_0 : decode cX4_votesIn 0 = .ok (.iconst 0, 1) := by decide +kernel
theorem dX4_votesIn_1 : decode cX4_votesIn 1 = .ok (.istore_n 2, 1) := by decide +kernel
theorem dX4_votesIn_2 : decode cX4_votesIn 2 = .ok (.iconst 0, 1) := by decide +kernel
theorem dX4_votesIn_3 : decode cX4_votesIn 3 = .ok (.istore_n 3, 1) := by decide +kernel
theorem dX4_votesIn_4 : decode cX4_votesIn 4 = .ok (.iload_n 3, 1) := by decide +kernel
theorem dX4_votesIn_5 : decode cX4_votesIn 5 = .ok (.aload_n 0, 1) := by decide +kernel
theorem dX4_votesIn_6 : decode cX4_votesIn 6 = .ok (.getfield 56, 3) := by decide +kernel
theorem dX4_votesIn_9 : decode cX4_votesIn 9 = .ok (.if_icmp .ge 34, 3) := by decide +kernel
theorem dX4_votesIn_12 : decode cX4_votesIn 12 = .ok (.aload_n 0, 1) := by decide +kernel
theorem dX4_votesIn_13 : decode cX4_votesIn 13 = .ok (.getfield 34, 3) := by decide +kernel
theorem dX4_votesIn_16 : decode cX4_votesIn 16 = .ok (.iload_n 3, 1) := by decide +kernel
theorem dX4_votesIn_17 : decode cX4_votesIn 17 = .ok (.aaload, 1) := by decide +kernel
theorem dX4_votesIn_18 : decode cX4_votesIn 18 = .ok (.getfield 141, 3) := by decide +kernel
theorem dX4_votesIn_21 : decode cX4_votesIn 21 = .ok (.iload_n 1, 1) := by decide +kernel
theorem dX4_votesIn_22 : decode cX4_votesIn 22 = .ok (.if_icmp .ne 15, 3) := by decide +kernel
theorem dX4_votesIn_25 : decode cX4_votesIn 25 = .ok (.iload_n 2, 1) := by decide +kernel
theorem dX4_votesIn_26 : decode cX4_votesIn 26 = .ok (.aload_n 0, 1) := by decide +kernel
theorem dX4_votesIn_27 : decode cX4_votesIn 27 = .ok (.getfield 34, 3) := by decide +kernel
theorem dX4_votesIn_30 : decode cX4_votesIn 30 = .ok (.iload_n 3, 1) := by decide +kernel
theorem dX4_votesIn_31 : decode cX4_votesIn 31 = .ok (.aaload, 1) := by decide +kernel
theorem dX4_votesIn_32 : decode cX4_votesIn 32 = .ok (.getfield 135, 3) := by decide +kernel
theorem dX4_votesIn_35 : decode cX4_votesIn 35 = .ok (.iadd, 1) := by decide +kernel
theorem dX4_votesIn_36 : decode cX4_votesIn 36 = .ok (.istore_n 2, 1) := by decide +kernel
theorem dX4_votesIn_37 : decode cX4_votesIn 37 = .ok (.iinc 3 1, 3) := by decide +kernel
theorem dX4_votesIn_40 : decode cX4_votesIn 40 = .ok (.goto (-36), 3) := by decide +kernel
theorem dX4_votesIn_43 : decode cX4_votesIn 43 = .ok (.iload_n 2, 1) := by decide +kernel
theorem dX4_votesIn_44 : decode cX4_votesIn 44 = .ok (.ireturn, 1) := by decide +kernel
theorem dX4_mostVotedIn_0 : decode cX4_mostVotedIn 0 = .ok (.iconst (-1), 1) := by decide +kernel
theorem dX4_mostVotedIn_1 : decode cX4_mostVotedIn 1 = .ok (.istore_n 2, 1) := by decide +kernel
theorem dX4_mostVotedIn_2 : decode cX4_mostVotedIn 2 = .ok (.iconst 0, 1) := by decide +kernel
theorem dX4_mostVotedIn_3 : decode cX4_mostVotedIn 3 = .ok (.istore_n 3, 1) := by decide +kernel
theorem dX4_mostVotedIn_4 : decode cX4_mostVotedIn 4 = .ok (.iload_n 3, 1) := by decide +kernel
theorem dX4_mostVotedIn_5 : decode cX4_mostVotedIn 5 = .ok (.aload_n 0, 1) := by decide +kernel
theorem dX4_mostVotedIn_6 : decode cX4_mostVotedIn 6 = .ok (.getfield 56, 3) := by decide +kernel
theorem dX4_mostVotedIn_9 : decode cX4_mostVotedIn 9 = .ok (.if_icmp .ge 46, 3) := by decide +kernel
theorem dX4_mostVotedIn_12 : decode cX4_mostVotedIn 12 = .ok (.aload_n 0, 1) := by decide +kernel
theorem dX4_mostVotedIn_13 : decode cX4_mostVotedIn 13 = .ok (.iload_n 3, 1) := by decide +kernel
theorem dX4_mostVotedIn_14 : decode cX4_mostVotedIn 14 = .ok (.iload_n 1, 1) := by decide +kernel
theorem dX4_mostVotedIn_15 : decode cX4_mostVotedIn 15 = .ok (.invokevirtual 223, 3) := by decide +kernel
theorem dX4_mostVotedIn_18 : decode cX4_mostVotedIn 18 = .ok (.ifCond .eq 31, 3) := by decide +kernel
theorem dX4_mostVotedIn_21 : decode cX4_mostVotedIn 21 = .ok (.iload_n 2, 1) := by decide +kernel
theorem dX4_mostVotedIn_22 : decode cX4_mostVotedIn 22 = .ok (.iconst (-1), 1) := by decide +kernel
theorem dX4_mostVotedIn_23 : decode cX4_mostVotedIn 23 = .ok (.if_icmp .eq 24, 3) := by decide +kernel
theorem dX4_mostVotedIn_26 : decode cX4_mostVotedIn 26 = .ok (.aload_n 0, 1) := by decide +kernel
theorem dX4_mostVotedIn_27 : decode cX4_mostVotedIn 27 = .ok (.getfield 34, 3) := by decide +kernel
theorem dX4_mostVotedIn_30 : decode cX4_mostVotedIn 30 = .ok (.iload_n 3, 1) := by decide +kernel
theorem dX4_mostVotedIn_31 : decode cX4_mostVotedIn 31 = .ok (.aaload, 1) := by decide +kernel
theorem dX4_mostVotedIn_32 : decode cX4_mostVotedIn 32 = .ok (.getfield 135, 3) := by decide +kernel
theorem dX4_mostVotedIn_35 : decode cX4_mostVotedIn 35 = .ok (.aload_n 0, 1) := by decide +kernel
theorem dX4_mostVotedIn_36 : decode cX4_mostVotedIn 36 = .ok (.getfield 34, 3) := by decide +kernel
theorem dX4_mostVotedIn_39 : decode cX4_mostVotedIn 39 = .ok (.iload_n 2, 1) := by decide +kernel
theorem dX4_mostVotedIn_40 : decode cX4_mostVotedIn 40 = .ok (.aaload, 1) := by decide +kernel
theorem dX4_mostVotedIn_41 : decode cX4_mostVotedIn 41 = .ok (.getfield 135, 3) := by decide +kernel
theorem dX4_mostVotedIn_44 : decode cX4_mostVotedIn 44 = .ok (.if_icmp .le 5, 3) := by decide +kernel
theorem dX4_mostVotedIn_47 : decode cX4_mostVotedIn 47 = .ok (.iload_n 3, 1) := by decide +kernel
theorem dX4_mostVotedIn_48 : decode cX4_mostVotedIn 48 = .ok (.istore_n 2, 1) := by decide +kernel
theorem dX4_mostVotedIn_49 : decode cX4_mostVotedIn 49 = .ok (.iinc 3 1, 3) := by decide +kernel
theorem dX4_mostVotedIn_52 : decode cX4_mostVotedIn 52 = .ok (.goto (-48), 3) := by decide +kernel
theorem dX4_mostVotedIn_55 : decode cX4_mostVotedIn 55 = .ok (.iload_n 2, 1) := by decide +kernel
theorem dX4_mostVotedIn_56 : decode cX4_mostVotedIn 56 = .ok (.ireturn, 1) := by decide +kernel
theorem dX4_countStandingAndLost_0 : decode cX4_countStandingAndLost 0 = .ok (.iconst 0, 1) := by decide +kernel
theorem dX4_countStandingAndLost_1 : decode cX4_countStandingAndLost 1 = .ok (.istore_n 2, 1) := by decide +kernel
theorem dX4_countStandingAndLost_2 : decode cX4_countStandingAndLost 2 = .ok (.iconst 0, 1) := by decide +kernel
theorem dX4_countStandingAndLost_3 : decode cX4_countStandingAndLost 3 = .ok (.istore_n 3, 1) := by decide +kernel
theorem dX4_countStandingAndLost_4 : decode cX4_countStandingAndLost 4 = .ok (.iload_n 3, 1) := by decide +kernel
theorem dX4_countStandingAndLost_5 : decode cX4_countStandingAndLost 5 = .ok (.aload_n 0, 1) := by decide +kernel
theorem dX4_countStandingAndLost_6 : decode cX4_countStandingAndLost 6 = .ok (.getfield 56, 3) := by decide +kernel
theorem dX4_countStandingAndLost_9 : decode cX4_countStandingAndLost 9 = .ok (.if_icmp .ge 30, 3) := by decide +kernel
theorem dX4_countStandingAndLost_12 : decode cX4_countStandingAndLost 12 = .ok (.aload_n 0, 1) := by decide +kernel
theorem dX4_countStandingAndLost_13 : decode cX4_countStandingAndLost 13 = .ok (.iload_n 3, 1) := by decide +kernel
theorem dX4_countStandingAndLost_14 : decode cX4_countStandingAndLost 14 = .ok (.iload_n 1, 1) := by decide +kernel
theorem dX4_countStandingAndLost_15 : decode cX4_countStandingAndLost 15 = .ok (.invokevirtual 223, 3) := by decide +kernel
theorem dX4_countStandingAndLost_18 : decode cX4_countStandingAndLost 18 = .ok (.ifCond .eq 15, 3) := by decide +kernel
theorem dX4_countStandingAndLost_21 : decode cX4_countStandingAndLost 21 = .ok (.aload_n 0, 1) := by decide +kernel
theorem dX4_countStandingAndLost_22 : decode cX4_countStandingAndLost 22 = .ok (.iload_n 3, 1) := by decide +kernel
theorem dX4_countStandingAndLost_23 : decode cX4_countStandingAndLost 23 = .ok (.invokevirtual 239, 3) := by decide +kernel
theorem dX4_countStandingAndLost_26 : decode cX4_countStandingAndLost 26 = .ok (.iconst 2, 1) := by decide +kernel
theorem dX4_countStandingAndLost_27 : decode cX4_countStandingAndLost 27 = .ok (.if_icmp .ne 6, 3) := by decide +kernel
theorem dX4_countStandingAndLost_30 : decode cX4_countStandingAndLost 30 = .ok (.iinc 2 1, 3) := by decide +kernel
theorem dX4_countStandingAndLost_33 : decode cX4_countStandingAndLost 33 = .ok (.iinc 3 1, 3) := by decide +kernel
theorem dX4_countStandingAndLost_36 : decode cX4_countStandingAndLost 36 = .ok (.goto (-32), 3) := by decide +kernel
theorem dX4_countStandingAndLost_39 : decode cX4_countStandingAndLost 39 = .ok (.iload_n 2, 1) := by decide +kernel
theorem dX4_countStandingAndLost_40 : decode cX4_countStandingAndLost 40 = .ok (.ireturn, 1) := by decide +kernel
theorem dX4_stateOfDeposit_0 : decode cX4_stateOfDeposit 0 = .ok (.aload_n 0, 1) := by decide +kernel
theorem dX4_stateOfDeposit_1 : decode cX4_stateOfDeposit 1 = .ok (.getfield 34, 3) := by decide +kernel
theorem dX4_stateOfDeposit_4 : decode cX4_stateOfDeposit 4 = .ok (.iload_n 1, 1) := by decide +kernel
theorem dX4_stateOfDeposit_5 : decode cX4_stateOfDeposit 5 = .ok (.aaload, 1) := by decide +kernel
theorem dX4_stateOfDeposit_6 : decode cX4_stateOfDeposit 6 = .ok (.astore_n 2, 1) := by decide +kernel
theorem dX4_stateOfDeposit_7 : decode cX4_stateOfDeposit 7 = .ok (.aload_n 0, 1) := by decide +kernel
theorem dX4_stateOfDeposit_8 : decode cX4_stateOfDeposit 8 = .ok (.iload_n 1, 1) := by decide +kernel
theorem dX4_stateOfDeposit_9 : decode cX4_stateOfDeposit 9 = .ok (.invokevirtual 177, 3) := by decide +kernel
theorem dX4_stateOfDeposit_12 : decode cX4_stateOfDeposit 12 = .ok (.ifCond .eq 16, 3) := by decide +kernel
theorem dX4_stateOfDeposit_15 : decode cX4_stateOfDeposit 15 = .ok (.aload_n 2, 1) := by decide +kernel
theorem dX4_stateOfDeposit_16 : decode cX4_stateOfDeposit 16 = .ok (.getfield 126, 3) := by decide +kernel
theorem dX4_stateOfDeposit_19 : decode cX4_stateOfDeposit 19 = .ok (.ifCond .eq 7, 3) := by decide +kernel
theorem dX4_stateOfDeposit_22 : decode cX4_stateOfDeposit 22 = .ok (.iconst 2, 1) := by decide +kernel
theorem dX4_stateOfDeposit_23 : decode cX4_stateOfDeposit 23 = .ok (.goto 4, 3) := by decide +kernel
theorem dX4_stateOfDeposit_26 : decode cX4_stateOfDeposit 26 = .ok (.iconst 1, 1) := by decide +kernel
theorem dX4_stateOfDeposit_27 : decode cX4_stateOfDeposit 27 = .ok (.ireturn, 1) := by decide +kernel
theorem dX4_stateOfDeposit_28 : decode cX4_stateOfDeposit 28 = .ok (.aload_n 0, 1) := by decide +kernel
theorem dX4_stateOfDeposit_29 : decode cX4_stateOfDeposit 29 = .ok (.getfield 12, 3) := by decide +kernel
theorem dX4_stateOfDeposit_32 : decode cX4_stateOfDeposit 32 = .ok (.invokevirtual 122, 3) := by decide +kernel
theorem dX4_stateOfDeposit_35 : decode cX4_stateOfDeposit 35 = .ok (.ifCond .eq 5, 3) := by decide +kernel
theorem dX4_stateOfDeposit_38 : decode cX4_stateOfDeposit 38 = .ok (.iconst 0, 1) := by decide +kernel
theorem dX4_stateOfDeposit_39 : decode cX4_stateOfDeposit 39 = .ok (.ireturn, 1) := by decide +kernel
theorem dX4_stateOfDeposit_40 : decode cX4_stateOfDeposit 40 = .ok (.aload_n 0, 1) := by decide +kernel
theorem dX4_stateOfDeposit_41 : decode cX4_stateOfDeposit 41 = .ok (.iload_n 1, 1) := by decide +kernel
theorem dX4_stateOfDeposit_42 : decode cX4_stateOfDeposit 42 = .ok (.invokevirtual 196, 3) := by decide +kernel
theorem dX4_stateOfDeposit_45 : decode cX4_stateOfDeposit 45 = .ok (.ifCond .eq 5, 3) := by decide +kernel
theorem dX4_stateOfDeposit_48 : decode cX4_stateOfDeposit 48 = .ok (.iconst 1, 1) := by decide +kernel
theorem dX4_stateOfDeposit_49 : decode cX4_stateOfDeposit 49 = .ok (.ireturn, 1) := by decide +kernel
theorem dX4_stateOfDeposit_50 : decode cX4_stateOfDeposit 50 = .ok (.aload_n 2, 1) := by decide +kernel
theorem dX4_stateOfDeposit_51 : decode cX4_stateOfDeposit 51 = .ok (.getfield 129, 3) := by decide +kernel
theorem dX4_stateOfDeposit_54 : decode cX4_stateOfDeposit 54 = .ok (.ifCond .eq 17, 3) := by decide +kernel
theorem dX4_stateOfDeposit_57 : decode cX4_stateOfDeposit 57 = .ok (.aload_n 0, 1) := by decide +kernel
theorem dX4_stateOfDeposit_58 : decode cX4_stateOfDeposit 58 = .ok (.iload_n 1, 1) := by decide +kernel
theorem dX4_stateOfDeposit_59 : decode cX4_stateOfDeposit 59 = .ok (.invokevirtual 242, 3) := by decide +kernel
theorem dX4_stateOfDeposit_62 : decode cX4_stateOfDeposit 62 = .ok (.ifCond .eq 7, 3) := by decide +kernel
theorem dX4_stateOfDeposit_65 : decode cX4_stateOfDeposit 65 = .ok (.iconst 0, 1) := by decide +kernel
theorem dX4_stateOfDeposit_66 : decode cX4_stateOfDeposit 66 = .ok (.goto 4, 3) := by decide +kernel
theorem dX4_stateOfDeposit_69 : decode cX4_stateOfDeposit 69 = .ok (.iconst 1, 1) := by decide +kernel
theorem dX4_stateOfDeposit_70 : decode cX4_stateOfDeposit 70 = .ok (.ireturn, 1) := by decide +kernel
theorem dX4_stateOfDeposit_71 : decode cX4_stateOfDeposit 71 = .ok (.aload_n 0, 1) := by decide +kernel
theorem dX4_stateOfDeposit_72 : decode cX4_stateOfDeposit 72 = .ok (.getfield 21, 3) := by decide +kernel
theorem dX4_stateOfDeposit_75 : decode cX4_stateOfDeposit 75 = .ok (.getfield 100, 3) := by decide +kernel
theorem dX4_stateOfDeposit_78 : decode cX4_stateOfDeposit 78 = .ok (.aload_n 2, 1) := by decide +kernel
theorem dX4_stateOfDeposit_79 : decode cX4_stateOfDeposit 79 = .ok (.getfield 141, 3) := by decide +kernel
theorem dX4_stateOfDeposit_82 : decode cX4_stateOfDeposit 82 = .ok (.aaload, 1) := by decide +kernel
theorem dX4_stateOfDeposit_83 : decode cX4_stateOfDeposit 83 = .ok (.getfield 104, 3) := by decide +kernel
theorem dX4_stateOfDeposit_86 : decode cX4_stateOfDeposit 86 = .ok (.ifCond .ne 5, 3) := by decide +kernel
theorem dX4_stateOfDeposit_89 : decode cX4_stateOfDeposit 89 = .ok (.iconst 0, 1) := by decide +kernel
theorem dX4_stateOfDeposit_90 : decode cX4_stateOfDeposit 90 = .ok (.ireturn, 1) := by decide +kernel
theorem dX4_stateOfDeposit_91 : decode cX4_stateOfDeposit 91 = .ok (.bipush 20, 2) := by decide +kernel
theorem dX4_stateOfDeposit_93 : decode cX4_stateOfDeposit 93 = .ok (.aload_n 2, 1) := by decide +kernel
theorem dX4_stateOfDeposit_94 : decode cX4_stateOfDeposit 94 = .ok (.getfield 135, 3) := by decide +kernel
theorem dX4_stateOfDeposit_97 : decode cX4_stateOfDeposit 97 = .ok (.imul, 1) := by decide +kernel
theorem dX4_stateOfDeposit_98 : decode cX4_stateOfDeposit 98 = .ok (.aload_n 0, 1) := by decide +kernel
theorem dX4_stateOfDeposit_99 : decode cX4_stateOfDeposit 99 = .ok (.aload_n 2, 1) := by decide +kernel
theorem dX4_stateOfDeposit_100 : decode cX4_stateOfDeposit 100 = .ok (.getfield 141, 3) := by decide +kernel
theorem dX4_stateOfDeposit_103 : decode cX4_stateOfDeposit 103 = .ok (.invokevirtual 245, 3) := by decide +kernel
theorem dX4_stateOfDeposit_106 : decode cX4_stateOfDeposit 106 = .ok (.if_icmp .ge 7, 3) := by decide +kernel
theorem dX4_stateOfDeposit_109 : decode cX4_stateOfDeposit 109 = .ok (.iconst 2, 1) := by decide +kernel
theorem dX4_stateOfDeposit_110 : decode cX4_stateOfDeposit 110 = .ok (.goto 4, 3) := by decide +kernel
theorem dX4_stateOfDeposit_113 : decode cX4_stateOfDeposit 113 = .ok (.iconst 1, 1) := by decide +kernel
theorem dX4_stateOfDeposit_114 : decode cX4_stateOfDeposit 114 = .ok (.ireturn, 1) := by decide +kernel
theorem dX4_sumOfDeposits_0 : decode cX4_sumOfDeposits 0 = .ok (.iconst 0, 1) := by decide +kernel
theorem dX4_sumOfDeposits_1 : decode cX4_sumOfDeposits 1 = .ok (.istore_n 2, 1) := by decide +kernel
theorem dX4_sumOfDeposits_2 : decode cX4_sumOfDeposits 2 = .ok (.iconst 0, 1) := by decide +kernel
theorem dX4_sumOfDeposits_3 : decode cX4_sumOfDeposits 3 = .ok (.istore_n 3, 1) := by decide +kernel
theorem dX4_sumOfDeposits_4 : decode cX4_sumOfDeposits 4 = .ok (.iload_n 3, 1) := by decide +kernel
theorem dX4_sumOfDeposits_5 : decode cX4_sumOfDeposits 5 = .ok (.aload_n 0, 1) := by decide +kernel
theorem dX4_sumOfDeposits_6 : decode cX4_sumOfDeposits 6 = .ok (.getfield 56, 3) := by decide +kernel
theorem dX4_sumOfDeposits_9 : decode cX4_sumOfDeposits 9 = .ok (.if_icmp .ge 30, 3) := by decide +kernel
theorem dX4_sumOfDeposits_12 : decode cX4_sumOfDeposits 12 = .ok (.aload_n 0, 1) := by decide +kernel
theorem dX4_sumOfDeposits_13 : decode cX4_sumOfDeposits 13 = .ok (.iload_n 3, 1) := by decide +kernel
theorem dX4_sumOfDeposits_14 : decode cX4_sumOfDeposits 14 = .ok (.invokevirtual 239, 3) := by decide +kernel
theorem dX4_sumOfDeposits_17 : decode cX4_sumOfDeposits 17 = .ok (.iload_n 1, 1) := by decide +kernel
theorem dX4_sumOfDeposits_18 : decode cX4_sumOfDeposits 18 = .ok (.if_icmp .ne 15, 3) := by decide +kernel
theorem dX4_sumOfDeposits_21 : decode cX4_sumOfDeposits 21 = .ok (.iload_n 2, 1) := by decide +kernel
theorem dX4_sumOfDeposits_22 : decode cX4_sumOfDeposits 22 = .ok (.aload_n 0, 1) := by decide +kernel
theorem dX4_sumOfDeposits_23 : decode cX4_sumOfDeposits 23 = .ok (.getfield 34, 3) := by decide +kernel
theorem dX4_sumOfDeposits_26 : decode cX4_sumOfDeposits 26 = .ok (.iload_n 3, 1) := by decide +kernel
theorem dX4_sumOfDeposits_27 : decode cX4_sumOfDeposits 27 = .ok (.aaload, 1) := by decide +kernel
theorem dX4_sumOfDeposits_28 : decode cX4_sumOfDeposits 28 = .ok (.getfield 119, 3) := by decide +kernel
theorem dX4_sumOfDeposits_31 : decode cX4_sumOfDeposits 31 = .ok (.iadd, 1) := by decide +kernel
theorem dX4_sumOfDeposits_32 : decode cX4_sumOfDeposits 32 = .ok (.istore_n 2, 1) := by decide +kernel
theorem dX4_sumOfDeposits_33 : decode cX4_sumOfDeposits 33 = .ok (.iinc 3 1, 3) := by decide +kernel
theorem dX4_sumOfDeposits_36 : decode cX4_sumOfDeposits 36 = .ok (.goto (-32), 3) := by decide +kernel
theorem dX4_sumOfDeposits_39 : decode cX4_sumOfDeposits 39 = .ok (.iload_n 2, 1) := by decide +kernel
theorem dX4_sumOfDeposits_40 : decode cX4_sumOfDeposits 40 = .ok (.ireturn, 1) := by decide +kernel
theorem dX4_sumPaid_0 : decode cX4_sumPaid 0 = .ok (.iconst 0, 1) := by decide +kernel
theorem dX4_sumPaid_1 : decode cX4_sumPaid 1 = .ok (.istore_n 1, 1) := by decide +kernel
theorem dX4_sumPaid_2 : decode cX4_sumPaid 2 = .ok (.iconst 0, 1) := by decide +kernel
theorem dX4_sumPaid_3 : decode cX4_sumPaid 3 = .ok (.istore_n 2, 1) := by decide +kernel
theorem dX4_sumPaid_4 : decode cX4_sumPaid 4 = .ok (.iload_n 2, 1) := by decide +kernel
theorem dX4_sumPaid_5 : decode cX4_sumPaid 5 = .ok (.aload_n 0, 1) := by decide +kernel
theorem dX4_sumPaid_6 : decode cX4_sumPaid 6 = .ok (.getfield 56, 3) := by decide +kernel
theorem dX4_sumPaid_9 : decode cX4_sumPaid 9 = .ok (.if_icmp .ge 21, 3) := by decide +kernel
theorem dX4_sumPaid_12 : decode cX4_sumPaid 12 = .ok (.iload_n 1, 1) := by decide +kernel
theorem dX4_sumPaid_13 : decode cX4_sumPaid 13 = .ok (.aload_n 0, 1) := by decide +kernel
theorem dX4_sumPaid_14 : decode cX4_sumPaid 14 = .ok (.getfield 34, 3) := by decide +kernel
theorem dX4_sumPaid_17 : decode cX4_sumPaid 17 = .ok (.iload_n 2, 1) := by decide +kernel
theorem dX4_sumPaid_18 : decode cX4_sumPaid 18 = .ok (.aaload, 1) := by decide +kernel
theorem dX4_sumPaid_19 : decode cX4_sumPaid 19 = .ok (.getfield 119, 3) := by decide +kernel
theorem dX4_sumPaid_22 : decode cX4_sumPaid 22 = .ok (.iadd, 1) := by decide +kernel
theorem dX4_sumPaid_23 : decode cX4_sumPaid 23 = .ok (.istore_n 1, 1) := by decide +kernel
theorem dX4_sumPaid_24 : decode cX4_sumPaid 24 = .ok (.iinc 2 1, 3) := by decide +kernel
theorem dX4_sumPaid_27 : decode cX4_sumPaid 27 = .ok (.goto (-23), 3) := by decide +kernel
theorem dX4_sumPaid_30 : decode cX4_sumPaid 30 = .ok (.iload_n 1, 1) := by decide +kernel
theorem dX4_sumPaid_31 : decode cX4_sumPaid 31 = .ok (.ireturn, 1) := by decide +kernel
theorem dX5_init_0 : decode cX5_init 0 = .ok (.aload_n 0, 1) := by decide +kernel
theorem dX5_init_1 : decode cX5_init 1 = .ok (.invokespecial 3, 3) := by decide +kernel
theorem dX5_init_4 : decode cX5_init 4 = .ok (.return_, 1) := by decide +kernel
theorem dX5_begin_0 : decode cX5_begin 0 = .ok (.aload_n 0, 1) := by decide +kernel
theorem dX5_begin_1 : decode cX5_begin 1 = .ok (.iload_n 1, 1) := by decide +kernel
theorem dX5_begin_2 : decode cX5_begin 2 = .ok (.putfield 9, 3) := by decide +kernel
theorem dX5_begin_5 : decode cX5_begin 5 = .ok (.aload_n 0, 1) := by decide +kernel
theorem dX5_begin_6 : decode cX5_begin 6 = .ok (.iload_n 2, 1) := by decide +kernel
theorem dX5_begin_7 : decode cX5_begin 7 = .ok (.putfield 15, 3) := by decide +kernel
theorem dX5_begin_10 : decode cX5_begin 10 = .ok (.aload_n 0, 1) := by decide +kernel
theorem dX5_begin_11 : decode cX5_begin 11 = .ok (.iload_n 3, 1) := by decide +kernel
theorem dX5_begin_12 : decode cX5_begin 12 = .ok (.putfield 18, 3) := by decide +kernel
theorem dX5_begin_15 : decode cX5_begin 15 = .ok (.aload_n 0, 1) := by decide +kernel
theorem dX5_begin_16 : decode cX5_begin 16 = .ok (.iconst 0, 1) := by decide +kernel
theorem dX5_begin_17 : decode cX5_begin 17 = .ok (.putfield 21, 3) := by decide +kernel
theorem dX5_begin_20 : decode cX5_begin 20 = .ok (.aload_n 0, 1) := by decide +kernel
theorem dX5_begin_21 : decode cX5_begin 21 = .ok (.iconst 0, 1) := by decide +kernel
theorem dX5_begin_22 : decode cX5_begin 22 = .ok (.putfield 24, 3) := by decide +kernel
theorem dX5_begin_25 : decode cX5_begin 25 = .ok (.aload_n 0, 1) := by decide +kernel
theorem dX5_begin_26 : decode cX5_begin 26 = .ok (.iconst 0, 1) := by decide +kernel
theorem dX5_begin_27 : decode cX5_begin 27 = .ok (.putfield 27, 3) := by decide +kernel
theorem dX5_begin_30 : decode cX5_begin 30 = .ok (.aload_n 0, 1) := by decide +kernel
theorem dX5_begin_31 : decode cX5_begin 31 = .ok (.iconst 0, 1) := by decide +kernel
theorem dX5_begin_32 : decode cX5_begin 32 = .ok (.putfield 30, 3) := by decide +kernel
theorem dX5_begin_35 : decode cX5_begin 35 = .ok (.aload_n 0, 1) := by decide +kernel
theorem dX5_begin_36 : decode cX5_begin 36 = .ok (.iconst 0, 1) := by decide +kernel
theorem dX5_begin_37 : decode cX5_begin 37 = .ok (.putfield 34, 3) := by decide +kernel
theorem dX5_begin_40 : decode cX5_begin 40 = .ok (.aload_n 0, 1) := by decide +kernel
theorem dX5_begin_41 : decode cX5_begin 41 = .ok (.iconst 0, 1) := by decide +kernel
theorem dX5_begin_42 : decode cX5_begin 42 = .ok (.putfield 37, 3) := by decide +kernel
theorem dX5_begin_45 : decode cX5_begin 45 = .ok (.aload_n 0, 1) := by decide +kernel
theorem dX5_begin_46 : decode cX5_begin 46 = .ok (.iconst 0, 1) := by decide +kernel
theorem dX5_begin_47 : decode cX5_begin 47 = .ok (.putfield 40, 3) := by decide +kernel
theorem dX5_begin_50 : decode cX5_begin 50 = .ok (.return_, 1) := by decide +kernel
theorem dX5_renew_0 : decode cX5_renew 0 = .ok (.aload_n 0, 1) := by decide +kernel
theorem dX5_renew_1 : decode cX5_renew 1 = .ok (.iload_n 1, 1) := by decide +kernel
theorem dX5_renew_2 : decode cX5_renew 2 = .ok (.putfield 18, 3) := by decide +kernel
theorem dX5_renew_5 : decode cX5_renew 5 = .ok (.aload_n 0, 1) := by decide +kernel
theorem dX5_renew_6 : decode cX5_renew 6 = .ok (.dup, 1) := by decide +kernel
theorem dX5_renew_7 : decode cX5_renew 7 = .ok (.getfield 27, 3) := by decide +kernel
theorem dX5_renew_10 : decode cX5_renew 10 = .ok (.iconst 1, 1) := by decide +kernel
theorem dX5_renew_11 : decode cX5_renew 11 = .ok (.iadd, 1) := by decide +kernel
theorem dX5_renew_12 : decode cX5_renew 12 = .ok (.putfield 27, 3) := by decide +kernel
theorem dX5_renew_15 : decode cX5_renew 15 = .ok (.aload_n 0, 1) := by decide +kernel
theorem dX5_renew_16 : decode cX5_renew 16 = .ok (.iconst 0, 1) := by decide +kernel
theorem dX5_renew_17 : decode cX5_renew 17 = .ok (.putfield 30, 3) := by decide +kernel
theorem dX5_renew_20 : decode cX5_renew 20 = .ok (.return_, 1) := by decide +kernel
theorem dX6_init_0 : decode cX6_init 0 = .ok (.aload_n 0, 1) := by decide +kernel
theorem dX6_init_1 : decode cX6_init 1 = .ok (.invokespecial 3, 3) := by decide +kernel
theorem dX6_init_4 : decode cX6_init 4 = .ok (.aload_n 0, 1) := by decide +kernel
theorem dX6_init_5 : decode cX6_init 5 = .ok (.iconst 5, 1) := by decide +kernel
theorem dX6_init_6 : decode cX6_init 6 = .ok (.anewarray 9, 3) := by decide +kernel
theorem dX6_init_9 : decode cX6_init 9 = .ok (.putfield 11, 3) := by decide +kernel
theorem dX6_init_12 : decode cX6_init 12 = .ok (.aload_n 0, 1) := by decide +kernel
theorem dX6_init_13 : decode cX6_init 13 = .ok (.bipush 40, 2) := by decide +kernel
theorem dX6_init_15 : decode cX6_init 15 = .ok (.anewarray 17, 3) := by decide +kernel
theorem dX6_init_18 : decode cX6_init 18 = .ok (.putfield 19, 3) := by decide +kernel
theorem dX6_init_21 : decode cX6_init 21 = .ok (.iconst 0, 1) := by decide +kernel
theorem dX6_init_22 : decode cX6_init 22 = .ok (.istore_n 1, 1) := by decide +kernel
theorem dX6_init_23 : decode cX6_init 23 = .ok (.iload_n 1, 1) := by decide +kernel
theorem dX6_init_24 : decode cX6_init 24 = .ok (.iconst 5, 1) := by decide +kernel
theorem dX6_init_25 : decode cX6_init 25 = .ok (.if_icmp .ge 22, 3) := by decide +kernel
theorem dX6_init_28 : decode cX6_init 28 = .ok (.aload_n 0, 1) := by decide +kernel
theorem dX6_init_29 : decode cX6_init 29 = .ok (.getfield 11, 3) := by decide +kernel
theorem dX6_init_32 : decode cX6_init 32 = .ok (.iload_n 1, 1) := by decide +kernel
theorem dX6_init_33 : decode cX6_init 33 = .ok (.new 9, 3) := by decide +kernel
theorem dX6_init_36 : decode cX6_init 36 = .ok (.dup, 1) := by decide +kernel
theorem dX6_init_37 : decode cX6_init 37 = .ok (.invokespecial 23, 3) := by decide +kernel
theorem dX6_init_40 : decode cX6_init 40 = .ok (.aastore, 1) := by decide +kernel
theorem dX6_init_41 : decode cX6_init 41 = .ok (.iinc 1 1, 3) := by decide +kernel
theorem dX6_init_44 : decode cX6_init 44 = .ok (.goto (-21), 3) := by decide +kernel
theorem dX6_init_47 : decode cX6_init 47 = .ok (.iconst 0, 1) := by decide +kernel
theorem dX6_init_48 : decode cX6_init 48 = .ok (.istore_n 1, 1) := by decide +kernel
theorem dX6_init_49 : decode cX6_init 49 = .ok (.iload_n 1, 1) := by decide +kernel
theorem dX6_init_50 : decode cX6_init 50 = .ok (.bipush 40, 2) := by decide +kernel
theorem dX6_init_52 : decode cX6_init 52 = .ok (.if_icmp .ge 22, 3) := by decide +kernel
theorem dX6_init_55 : decode cX6_init 55 = .ok (.aload_n 0, 1) := by decide +kernel
theorem dX6_init_56 : decode cX6_init 56 = .ok (.getfield 19, 3) := by decide +kernel
theorem dX6_init_59 : decode cX6_init 59 = .ok (.iload_n 1, 1) := by decide +kernel
theorem dX6_init_60 : decode cX6_init 60 = .ok (.new 17, 3) := by decide +kernel
theorem dX6_init_63 : decode cX6_init 63 = .ok (.dup, 1) := by decide +kernel
theorem dX6_init_64 : decode cX6_init 64 = .ok (.invokespecial 24, 3) := by decide +kernel
theorem dX6_init_67 : decode cX6_init 67 = .ok (.aastore, 1) := by decide +kernel
theorem dX6_init_68 : decode cX6_init 68 = .ok (.iinc 1 1, 3) := by decide +kernel
theorem dX6_init_71 : decode cX6_init 71 = .ok (.goto (-22), 3) := by decide +kernel
theorem dX6_init_74 : decode cX6_init 74 = .ok (.return_, 1) := by decide +kernel
theorem dX6_restart_0 : decode cX6_restart 0 = .ok (.aload_n 0, 1) := by decide +kernel
theorem dX6_restart_1 : decode cX6_restart 1 = .ok (.iconst 0, 1) := by decide +kernel
theorem dX6_restart_2 : decode cX6_restart 2 = .ok (.putfield 25, 3) := by decide +kernel
theorem dX6_restart_5 : decode cX6_restart 5 = .ok (.aload_n 0, 1) := by decide +kernel
theorem dX6_restart_6 : decode cX6_restart 6 = .ok (.iconst 0, 1) := by decide +kernel
theorem dX6_restart_7 : decode cX6_restart 7 = .ok (.putfield 29, 3) := by decide +kernel
theorem dX6_restart_10 : decode cX6_restart 10 = .ok (.return_, 1) := by decide +kernel
theorem dX6_beginArea_0 : decode cX6_beginArea 0 = .ok (.aload_n 0, 1) := by decide +kernel
theorem dX6_beginArea_1 : decode cX6_beginArea 1 = .ok (.getfield 11, 3) := by decide +kernel
theorem dX6_beginArea_4 : decode cX6_beginArea 4 = .ok (.aload_n 0, 1) := by decide +kernel
theorem dX6_beginArea_5 : decode cX6_beginArea 5 = .ok (.getfield 25, 3) := by decide +kernel
theorem dX6_beginArea_8 : decode cX6_beginArea 8 = .ok (.aaload, 1) := by decide +kernel
theorem dX6_beginArea_9 : decode cX6_beginArea 9 = .ok (.iload_n 1, 1) := by decide +kernel
theorem dX6_beginArea_10 : decode cX6_beginArea 10 = .ok (.iload_n 2, 1) := by decide +kernel
theorem dX6_beginArea_11 : decode cX6_beginArea 11 = .ok (.invokevirtual 32, 3) := by decide +kernel
theorem dX6_beginArea_14 : decode cX6_beginArea 14 = .ok (.aload_n 0, 1) := by decide +kernel
theorem dX6_beginArea_15 : decode cX6_beginArea 15 = .ok (.dup, 1) := by decide +kernel
theorem dX6_beginArea_16 : decode cX6_beginArea 16 = .ok (.getfield 25, 3) := by decide +kernel
theorem dX6_beginArea_19 : decode cX6_beginArea 19 = .ok (.iconst 1, 1) := by decide +kernel
theorem dX6_beginArea_20 : decode cX6_beginArea 20 = .ok (.iadd, 1) := by decide +kernel
theorem dX6_beginArea_21 : decode cX6_beginArea 21 = .ok (.putfield 25, 3) := by decide +kernel
theorem dX6_beginArea_24 : decode cX6_beginArea 24 = .ok (.return_, 1) := by decide +kernel
theorem dX6_beginVoter_0 : decode cX6_beginVoter 0 = .ok (.aload_n 0, 1) := by decide +kernel
theorem dX6_beginVoter_1 : decode cX6_beginVoter 1 = .ok (.getfield 19, 3) := by decide +kernel
theorem dX6_beginVoter_4 : decode cX6_beginVoter 4 = .ok (.aload_n 0, 1) := by decide +kernel
theorem dX6_beginVoter_5 : decode cX6_beginVoter 5 = .ok (.getfield 29, 3) := by decide +kernel
theorem dX6_beginVoter_8 : decode cX6_beginVoter 8 = .ok (.aaload, 1) := by decide +kernel
theorem dX6_beginVoter_9 : decode cX6_beginVoter 9 = .ok (.iload_n 1, 1) := by decide +kernel
theorem dX6_beginVoter_10 : decode cX6_beginVoter 10 = .ok (.invokevirtual 36, 3) := by decide +kernel
theorem dX6_beginVoter_13 : decode cX6_beginVoter 13 = .ok (.aload_n 0, 1) := by decide +kernel
theorem dX6_beginVoter_14 : decode cX6_beginVoter 14 = .ok (.dup, 1) := by decide +kernel
theorem dX6_beginVoter_15 : decode cX6_beginVoter 15 = .ok (.getfield 29, 3) := by decide +kernel
theorem dX6_beginVoter_18 : decode cX6_beginVoter 18 = .ok (.iconst 1, 1) := by decide +kernel
theorem dX6_beginVoter_19 : decode cX6_beginVoter 19 = .ok (.iadd, 1) := by decide +kernel
theorem dX6_beginVoter_20 : decode cX6_beginVoter 20 = .ok (.putfield 29, 3) := by decide +kernel
theorem dX6_beginVoter_23 : decode cX6_beginVoter 23 = .ok (.return_, 1) := by decide +kernel
theorem dX6_countOnRoll_0 : decode cX6_countOnRoll 0 = .ok (.iconst 0, 1) := by decide +kernel
theorem dX6_countOnRoll_1 : decode cX6_countOnRoll 1 = .ok (.istore_n 1, 1) := by decide +kernel
theorem dX6_countOnRoll_2 : decode cX6_countOnRoll 2 = .ok (.iconst 0, 1) := by decide +kernel
theorem dX6_countOnRoll_3 : decode cX6_countOnRoll 3 = .ok (.istore_n 2, 1) := by decide +kernel
theorem dX6_countOnRoll_4 : decode cX6_countOnRoll 4 = .ok (.iload_n 2, 1) := by decide +kernel
theorem dX6_countOnRoll_5 : decode cX6_countOnRoll 5 = .ok (.aload_n 0, 1) := by decide +kernel
theorem dX6_countOnRoll_6 : decode cX6_countOnRoll 6 = .ok (.getfield 29, 3) := by decide +kernel
theorem dX6_countOnRoll_9 : decode cX6_countOnRoll 9 = .ok (.if_icmp .ge 24, 3) := by decide +kernel
theorem dX6_countOnRoll_12 : decode cX6_countOnRoll 12 = .ok (.aload_n 0, 1) := by decide +kernel
theorem dX6_countOnRoll_13 : decode cX6_countOnRoll 13 = .ok (.getfield 19, 3) := by decide +kernel
theorem dX6_countOnRoll_16 : decode cX6_countOnRoll 16 = .ok (.iload_n 2, 1) := by decide +kernel
theorem dX6_countOnRoll_17 : decode cX6_countOnRoll 17 = .ok (.aaload, 1) := by decide +kernel
theorem dX6_countOnRoll_18 : decode cX6_countOnRoll 18 = .ok (.getfield 39, 3) := by decide +kernel
theorem dX6_countOnRoll_21 : decode cX6_countOnRoll 21 = .ok (.ifCond .eq 6, 3) := by decide +kernel
theorem dX6_countOnRoll_24 : decode cX6_countOnRoll 24 = .ok (.iinc 1 1, 3) := by decide +kernel
theorem dX6_countOnRoll_27 : decode cX6_countOnRoll 27 = .ok (.iinc 2 1, 3) := by decide +kernel
theorem dX6_countOnRoll_30 : decode cX6_countOnRoll 30 = .ok (.goto (-26), 3) := by decide +kernel
theorem dX6_countOnRoll_33 : decode cX6_countOnRoll 33 = .ok (.iload_n 1, 1) := by decide +kernel
theorem dX6_countOnRoll_34 : decode cX6_countOnRoll 34 = .ok (.ireturn, 1) := by decide +kernel
theorem dX7_init_0 : decode cX7_init 0 = .ok (.aload_n 0, 1) := by decide +kernel
theorem dX7_init_1 : decode cX7_init 1 = .ok (.invokespecial 3, 3) := by decide +kernel
theorem dX7_init_4 : decode cX7_init 4 = .ok (.return_, 1) := by decide +kernel
theorem dX7_begin_0 : decode cX7_begin 0 = .ok (.aload_n 0, 1) := by decide +kernel
theorem dX7_begin_1 : decode cX7_begin 1 = .ok (.iload_n 1, 1) := by decide +kernel
theorem dX7_begin_2 : decode cX7_begin 2 = .ok (.putfield 9, 3) := by decide +kernel
theorem dX7_begin_5 : decode cX7_begin 5 = .ok (.aload_n 0, 1) := by decide +kernel
theorem dX7_begin_6 : decode cX7_begin 6 = .ok (.iload_n 2, 1) := by decide +kernel
theorem dX7_begin_7 : decode cX7_begin 7 = .ok (.putfield 15, 3) := by decide +kernel
theorem dX7_begin_10 : decode cX7_begin 10 = .ok (.aload_n 0, 1) := by decide +kernel
theorem dX7_begin_11 : decode cX7_begin 11 = .ok (.iload_n 3, 1) := by decide +kernel
theorem dX7_begin_12 : decode cX7_begin 12 = .ok (.putfield 18, 3) := by decide +kernel
theorem dX7_begin_15 : decode cX7_begin 15 = .ok (.aload_n 0, 1) := by decide +kernel
theorem dX7_begin_16 : decode cX7_begin 16 = .ok (.iload 4, 2) := by decide +kernel
theorem dX7_begin_18 : decode cX7_begin 18 = .ok (.putfield 22, 3) := by decide +kernel
theorem dX7_begin_21 : decode cX7_begin 21 = .ok (.aload_n 0, 1) := by decide +kernel
theorem dX7_begin_22 : decode cX7_begin 22 = .ok (.iconst 0, 1) := by decide +kernel
theorem dX7_begin_23 : decode cX7_begin 23 = .ok (.putfield 25, 3) := by decide +kernel
theorem dX7_begin_26 : decode cX7_begin 26 = .ok (.return_, 1) := by decide +kernel
theorem dX8_init_0 : decode cX8_init 0 = .ok (.aload_n 0, 1) := by decide +kernel
theorem dX8_init_1 : decode cX8_init 1 = .ok (.invokespecial 1, 3) := by decide +kernel
theorem dX8_init_4 : decode cX8_init 4 = .ok (.return_, 1) := by decide +kernel
theorem dX8_begin_0 : decode cX8_begin 0 = .ok (.aload_n 0, 1) := by decide +kernel
theorem dX8_begin_1 : decode cX8_begin 1 = .ok (.iload_n 1, 1) := by decide +kernel
theorem dX8_begin_2 : decode cX8_begin 2 = .ok (.putfield 7, 3) := by decide +kernel
theorem dX8_begin_5 : decode cX8_begin 5 = .ok (.aload_n 0, 1) := by decide +kernel
theorem dX8_begin_6 : decode cX8_begin 6 = .ok (.iconst 1, 1) := by decide +kernel
theorem dX8_begin_7 : decode cX8_begin 7 = .ok (.putfield 13, 3) := by decide +kernel
theorem dX8_begin_10 : decode cX8_begin 10 = .ok (.aload_n 0, 1) := by decide +kernel
theorem dX8_begin_11 : decode cX8_begin 11 = .ok (.iconst 0, 1) := by decide +kernel
theorem dX8_begin_12 : decode cX8_begin 12 = .ok (.putfield 17, 3) := by decide +kernel
theorem dX8_begin_15 : decode cX8_begin 15 = .ok (.return_, 1) := by decide +kernel
theorem dX9_init_0 : decode cX9_init 0 = .ok (.aload_n 0, 1) := by decide +kernel
theorem dX9_init_1 : decode cX9_init 1 = .ok (.invokespecial 1, 3) := by decide +kernel
theorem dX9_init_4 : decode cX9_init 4 = .ok (.aload_n 0, 1) := by decide +kernel
theorem dX9_init_5 : decode cX9_init 5 = .ok (.new 7, 3) := by decide +kernel
theorem dX9_init_8 : decode cX9_init 8 = .ok (.dup, 1) := by decide +kernel
theorem dX9_init_9 : decode cX9_init 9 = .ok (.invokespecial 9, 3) := by decide +kernel
theorem dX9_init_12 : decode cX9_init 12 = .ok (.putfield 10, 3) := by decide +kernel
theorem dX9_init_15 : decode cX9_init 15 = .ok (.aload_n 0, 1) := by decide +kernel
theorem dX9_init_16 : decode cX9_init 16 = .ok (.new 7, 3) := by decide +kernel
theorem dX9_init_19 : decode cX9_init 19 = .ok (.dup, 1) := by decide +kernel
theorem dX9_init_20 : decode cX9_init 20 = .ok (.invokespecial 9, 3) := by decide +kernel
theorem dX9_init_23 : decode cX9_init 23 = .ok (.putfield 16, 3) := by decide +kernel
theorem dX9_init_26 : decode cX9_init 26 = .ok (.aload_n 0, 1) := by decide +kernel
theorem dX9_init_27 : decode cX9_init 27 = .ok (.new 19, 3) := by decide +kernel
theorem dX9_init_30 : decode cX9_init 30 = .ok (.dup, 1) := by decide +kernel
theorem dX9_init_31 : decode cX9_init 31 = .ok (.invokespecial 21, 3) := by decide +kernel
theorem dX9_init_34 : decode cX9_init 34 = .ok (.putfield 22, 3) := by decide +kernel
theorem dX9_init_37 : decode cX9_init 37 = .ok (.return_, 1) := by decide +kernel
theorem dX9_setCalendar_0 : decode cX9_setCalendar 0 = .ok (.iload_n 1, 1) := by decide +kernel
theorem dX9_setCalendar_1 : decode cX9_setCalendar 1 = .ok (.ifCond .lt 19, 3) := by decide +kernel
theorem dX9_setCalendar_4 : decode cX9_setCalendar 4 = .ok (.iload_n 2, 1) := by decide +kernel
theorem dX9_setCalendar_5 : decode cX9_setCalendar 5 = .ok (.iload_n 1, 1) := by decide +kernel
theorem dX9_setCalendar_6 : decode cX9_setCalendar 6 = .ok (.if_icmp .lt 14, 3) := by decide +kernel
theorem dX9_setCalendar_9 : decode cX9_setCalendar 9 = .ok (.iload_n 3, 1) := by decide +kernel
theorem dX9_setCalendar_10 : decode cX9_setCalendar 10 = .ok (.iload_n 2, 1) := by decide +kernel
theorem dX9_setCalendar_11 : decode cX9_setCalendar 11 = .ok (.if_icmp .le 9, 3) := by decide +kernel
theorem dX9_setCalendar_14 : decode cX9_setCalendar 14 = .ok (.iload_n 3, 1) := by decide +kernel
theorem dX9_setCalendar_15 : decode cX9_setCalendar 15 = .ok (.bipush 60, 2) := by decide +kernel
theorem dX9_setCalendar_17 : decode cX9_setCalendar 17 = .ok (.if_icmp .le 13, 3) := by decide +kernel
theorem dX9_setCalendar_20 : decode cX9_setCalendar 20 = .ok (.new 26, 3) := by decide +kernel
theorem dX9_setCalendar_23 : decode cX9_setCalendar 23 = .ok (.dup, 1) := by decide +kernel
theorem dX9_setCalendar_24 : decode cX9_setCalendar 24 = .ok (.ldc 28, 2) := by decide +kernel
theorem dX9_setCalendar_26 : decode cX9_setCalendar 26 = .ok (.invokespecial 30, 3) := by decide +kernel
theorem dX9_setCalendar_29 : decode cX9_setCalendar 29 = .ok (.athrow, 1) := by decide +kernel
theorem dX9_setCalendar_30 : decode cX9_setCalendar 30 = .ok (.aload_n 0, 1) := by decide +kernel
theorem dX9_setCalendar_31 : decode cX9_setCalendar 31 = .ok (.getfield 10, 3) := by decide +kernel
theorem dX9_setCalendar_34 : decode cX9_setCalendar 34 = .ok (.getfield 33, 3) := by decide +kernel
theorem dX9_setCalendar_37 : decode cX9_setCalendar 37 = .ok (.getfield 37, 3) := by decide +kernel
theorem dX9_setCalendar_40 : decode cX9_setCalendar 40 = .ok (.ifCond .ne 13, 3) := by decide +kernel
theorem dX9_setCalendar_43 : decode cX9_setCalendar 43 = .ok (.aload_n 0, 1) := by decide +kernel
theorem dX9_setCalendar_44 : decode cX9_setCalendar 44 = .ok (.getfield 10, 3) := by decide +kernel
theorem dX9_setCalendar_47 : decode cX9_setCalendar 47 = .ok (.getfield 43, 3) := by decide +kernel
theorem dX9_setCalendar_50 : decode cX9_setCalendar 50 = .ok (.ifCond .le 13, 3) := by decide +kernel
theorem dX9_setCalendar_53 : decode cX9_setCalendar 53 = .ok (.new 46, 3) := by decide +kernel
theorem dX9_setCalendar_56 : decode cX9_setCalendar 56 = .ok (.dup, 1) := by decide +kernel
theorem dX9_setCalendar_57 : decode cX9_setCalendar 57 = .ok (.ldc 48, 2) := by decide +kernel
theorem dX9_setCalendar_59 : decode cX9_setCalendar 59 = .ok (.invokespecial 50, 3) := by decide +kernel
theorem dX9_setCalendar_62 : decode cX9_setCalendar 62 = .ok (.athrow, 1) := by decide +kernel
theorem dX9_setCalendar_63 : decode cX9_setCalendar 63 = .ok (.aload_n 0, 1) := by decide +kernel
theorem dX9_setCalendar_64 : decode cX9_setCalendar 64 = .ok (.getfield 10, 3) := by decide +kernel
theorem dX9_setCalendar_67 : decode cX9_setCalendar 67 = .ok (.getfield 33, 3) := by decide +kernel
theorem dX9_setCalendar_70 : decode cX9_setCalendar 70 = .ok (.getfield 51, 3) := by decide +kernel
theorem dX9_setCalendar_73 : decode cX9_setCalendar 73 = .ok (.istore 4, 2) := by decide +kernel
theorem dX9_setCalendar_75 : decode cX9_setCalendar 75 = .ok (.aload_n 0, 1) := by decide +kernel
theorem dX9_setCalendar_76 : decode cX9_setCalendar 76 = .ok (.iconst 0, 1) := by decide +kernel
theorem dX9_setCalendar_77 : decode cX9_setCalendar 77 = .ok (.iload_n 1, 1) := by decide +kernel
theorem dX9_setCalendar_78 : decode cX9_setCalendar 78 = .ok (.iload_n 2, 1) := by decide +kernel
theorem dX9_setCalendar_79 : decode cX9_setCalendar 79 = .ok (.iload_n 3, 1) := by decide +kernel
theorem dX9_setCalendar_80 : decode cX9_setCalendar 80 = .ok (.invokevirtual 54, 3) := by decide +kernel
theorem dX9_setCalendar_83 : decode cX9_setCalendar 83 = .ok (.iload 4, 2) := by decide +kernel
theorem dX9_setCalendar_85 : decode cX9_setCalendar 85 = .ok (.ireturn, 1) := by decide +kernel
theorem dX9_pass_0 : decode cX9_pass 0 = .ok (.iload_n 1, 1) := by decide +kernel
theorem dX9_pass_1 : decode cX9_pass 1 = .ok (.iconst 1, 1) := by decide +kernel
theorem dX9_pass_2 : decode cX9_pass 2 = .ok (.if_icmp .lt 9, 3) := by decide +kernel
theorem dX9_pass_5 : decode cX9_pass 5 = .ok (.iload_n 1, 1) := by decide +kernel
theorem dX9_pass_6 : decode cX9_pass 6 = .ok (.bipush 30, 2) := by decide +kernel
theorem dX9_pass_8 : decode cX9_pass 8 = .ok (.if_icmp .le 13, 3) := by decide +kernel
theorem dX9_pass_11 : decode cX9_pass 11 = .ok (.new 26, 3) := by decide +kernel
theorem dX9_pass_14 : decode cX9_pass 14 = .ok (.dup, 1) := by decide +kernel
theorem dX9_pass_15 : decode cX9_pass 15 = .ok (.ldc 58, 2) := by decide +kernel
theorem dX9_pass_17 : decode cX9_pass 17 = .ok (.invokespecial 30, 3) := by decide +kernel
theorem dX9_pass_20 : decode cX9_pass 20 = .ok (.athrow, 1) := by decide +kernel
theorem dX9_pass_21 : decode cX9_pass 21 = .ok (.aload_n 0, 1) := by decide +kernel
theorem dX9_pass_22 : decode cX9_pass 22 = .ok (.getfield 10, 3) := by decide +kernel
theorem dX9_pass_25 : decode cX9_pass 25 = .ok (.getfield 33, 3) := by decide +kernel
theorem dX9_pass_28 : decode cX9_pass 28 = .ok (.getfield 37, 3) := by decide +kernel
theorem dX9_pass_31 : decode cX9_pass 31 = .ok (.iload_n 1, 1) := by decide +kernel
theorem dX9_pass_32 : decode cX9_pass 32 = .ok (.iadd, 1) := by decide +kernel
theorem dX9_pass_33 : decode cX9_pass 33 = .ok (.bipush 99, 2) := by decide +kernel
theorem dX9_pass_35 : decode cX9_pass 35 = .ok (.if_icmp .le 13, 3) := by decide +kernel
theorem dX9_pass_38 : decode cX9_pass 38 = .ok (.new 46, 3) := by decide +kernel
theorem dX9_pass_41 : decode cX9_pass 41 = .ok (.dup, 1) := by decide +kernel
theorem dX9_pass_42 : decode cX9_pass 42 = .ok (.ldc 60, 2) := by decide +kernel
theorem dX9_pass_44 : decode cX9_pass 44 = .ok (.invokespecial 50, 3) := by decide +kernel
theorem dX9_pass_47 : decode cX9_pass 47 = .ok (.athrow, 1) := by decide +kernel
theorem dX9_pass_48 : decode cX9_pass 48 = .ok (.aload_n 0, 1) := by decide +kernel
theorem dX9_pass_49 : decode cX9_pass 49 = .ok (.iconst 1, 1) := by decide +kernel
theorem dX9_pass_50 : decode cX9_pass 50 = .ok (.iload_n 1, 1) := by decide +kernel
theorem dX9_pass_51 : decode cX9_pass 51 = .ok (.iconst 0, 1) := by decide +kernel
theorem dX9_pass_52 : decode cX9_pass 52 = .ok (.iconst 0, 1) := by decide +kernel
theorem dX9_pass_53 : decode cX9_pass 53 = .ok (.invokevirtual 54, 3) := by decide +kernel
theorem dX9_pass_56 : decode cX9_pass 56 = .ok (.aload_n 0, 1) := by decide +kernel
theorem dX9_pass_57 : decode cX9_pass 57 = .ok (.getfield 10, 3) := by decide +kernel
theorem dX9_pass_60 : decode cX9_pass 60 = .ok (.getfield 33, 3) := by decide +kernel
theorem dX9_pass_63 : decode cX9_pass 63 = .ok (.getfield 37, 3) := by decide +kernel
theorem dX9_pass_66 : decode cX9_pass 66 = .ok (.ireturn, 1) := by decide +kernel
theorem dX9_day_0 : decode cX9_day 0 = .ok (.aload_n 0, 1) := by decide +kernel
theorem dX9_day_1 : decode cX9_day 1 = .ok (.getfield 10, 3) := by decide +kernel
theorem dX9_day_4 : decode cX9_day 4 = .ok (.getfield 33, 3) := by decide +kernel
theorem dX9_day_7 : decode cX9_day 7 = .ok (.getfield 37, 3) := by decide +kernel
theorem dX9_day_10 : decode cX9_day 10 = .ok (.ireturn, 1) := by decide +kernel
theorem dX9_isOpen_0 : decode cX9_isOpen 0 = .ok (.aload_n 0, 1) := by decide +kernel
theorem dX9_isOpen_1 : decode cX9_isOpen 1 = .ok (.getfield 10, 3) := by decide +kernel
theorem dX9_isOpen_4 : decode cX9_isOpen 4 = .ok (.getfield 33, 3) := by decide +kernel
theorem dX9_isOpen_7 : decode cX9_isOpen 7 = .ok (.invokevirtual 62, 3) := by decide +kernel
theorem dX9_isOpen_10 : decode cX9_isOpen 10 = .ok (.ireturn, 1) := by decide +kernel
theorem dX9_addArea_0 : decode cX9_addArea 0 = .ok (.iload_n 1, 1) := by decide +kernel
theorem dX9_addArea_1 : decode cX9_addArea 1 = .ok (.iconst 1, 1) := by decide +kernel
theorem dX9_addArea_2 : decode cX9_addArea 2 = .ok (.if_icmp .lt 20, 3) := by decide +kernel
theorem dX9_addArea_5 : decode cX9_addArea 5 = .ok (.iload_n 1, 1) := by decide +kernel
theorem dX9_addArea_6 : decode cX9_addArea 6 = .ok (.bipush 10, 2) := by decide +kernel
theorem dX9_addArea_8 : decode cX9_addArea 8 = .ok (.if_icmp .gt 14, 3) := by decide +kernel
theorem dX9_addArea_11 : decode cX9_addArea 11 = .ok (.iload_n 2, 1) := by decide +kernel
theorem dX9_addArea_12 : decode cX9_addArea 12 = .ok (.ifCond .lt 10, 3) := by decide +kernel
theorem dX9_addArea_15 : decode cX9_addArea 15 = .ok (.iload_n 2, 1) := by decide +kernel
theorem dX9_addArea_16 : decode cX9_addArea 16 = .ok (.sipush 1000, 3) := by decide +kernel
theorem dX9_addArea_19 : decode cX9_addArea 19 = .ok (.if_icmp .le 13, 3) := by decide +kernel
theorem dX9_addArea_22 : decode cX9_addArea 22 = .ok (.new 26, 3) := by decide +kernel
theorem dX9_addArea_25 : decode cX9_addArea 25 = .ok (.dup, 1) := by decide +kernel
theorem dX9_addArea_26 : decode cX9_addArea 26 = .ok (.ldc 66, 2) := by decide +kernel
theorem dX9_addArea_28 : decode cX9_addArea 28 = .ok (.invokespecial 30, 3) := by decide +kernel
theorem dX9_addArea_31 : decode cX9_addArea 31 = .ok (.athrow, 1) := by decide +kernel
theorem dX9_addArea_32 : decode cX9_addArea 32 = .ok (.aload_n 0, 1) := by decide +kernel
theorem dX9_addArea_33 : decode cX9_addArea 33 = .ok (.getfield 10, 3) := by decide +kernel
theorem dX9_addArea_36 : decode cX9_addArea 36 = .ok (.getfield 68, 3) := by decide +kernel
theorem dX9_addArea_39 : decode cX9_addArea 39 = .ok (.getfield 72, 3) := by decide +kernel
theorem dX9_addArea_42 : decode cX9_addArea 42 = .ok (.iconst 5, 1) := by decide +kernel
theorem dX9_addArea_43 : decode cX9_addArea 43 = .ok (.if_icmp .lt 13, 3) := by decide +kernel
theorem dX9_addArea_46 : decode cX9_addArea 46 = .ok (.new 46, 3) := by decide +kernel
theorem dX9_addArea_49 : decode cX9_addArea 49 = .ok (.dup, 1) := by decide +kernel
theorem dX9_addArea_50 : decode cX9_addArea 50 = .ok (.ldc 77, 2) := by decide +kernel
theorem dX9_addArea_52 : decode cX9_addArea 52 = .ok (.invokespecial 50, 3) := by decide +kernel
theorem dX9_addArea_55 : decode cX9_addArea 55 = .ok (.athrow, 1) := by decide +kernel
theorem dX9_addArea_56 : decode cX9_addArea 56 = .ok (.aload_n 0, 1) := by decide +kernel
theorem dX9_addArea_57 : decode cX9_addArea 57 = .ok (.iconst 2, 1) := by decide +kernel
theorem dX9_addArea_58 : decode cX9_addArea 58 = .ok (.iload_n 1, 1) := by decide +kernel
theorem dX9_addArea_59 : decode cX9_addArea 59 = .ok (.iload_n 2, 1) := by decide +kernel
theorem dX9_addArea_60 : decode cX9_addArea 60 = .ok (.iconst 0, 1) := by decide +kernel
theorem dX9_addArea_61 : decode cX9_addArea 61 = .ok (.invokevirtual 54, 3) := by decide +kernel
theorem dX9_addArea_64 : decode cX9_addArea 64 = .ok (.aload_n 0, 1) := by decide +kernel
theorem dX9_addArea_65 : decode cX9_addArea 65 = .ok (.getfield 10, 3) := by decide +kernel
theorem dX9_addArea_68 : decode cX9_addArea 68 = .ok (.getfield 68, 3) := by decide +kernel
theorem dX9_addArea_71 : decode cX9_addArea 71 = .ok (.getfield 72, 3) := by decide +kernel
theorem dX9_addArea_74 : decode cX9_addArea 74 = .ok (.iconst 1, 1) := by decide +kernel
theorem dX9_addArea_75 : decode cX9_addArea 75 = .ok (.isub, 1) := by decide +kernel
theorem dX9_addArea_76 : decode cX9_addArea 76 = .ok (.ireturn, 1) := by decide +kernel
theorem dX9_addVoter_0 : decode cX9_addVoter 0 = .ok (.aload_n 0, 1) := by decide +kernel
theorem dX9_addVoter_1 : decode cX9_addVoter 1 = .ok (.iload_n 1, 1) := by decide +kernel
theorem dX9_addVoter_2 : decode cX9_addVoter 2 = .ok (.invokevirtual 79, 3) := by decide +kernel
theorem dX9_addVoter_5 : decode cX9_addVoter 5 = .ok (.aload_n 0, 1) := by decide +kernel
theorem dX9_addVoter_6 : decode cX9_addVoter 6 = .ok (.getfield 10, 3) := by decide +kernel
theorem dX9_addVoter_9 : decode cX9_addVoter 9 = .ok (.getfield 68, 3) := by decide +kernel
theorem dX9_addVoter_12 : decode cX9_addVoter 12 = .ok (.getfield 83, 3) := by decide +kernel
theorem dX9_addVoter_15 : decode cX9_addVoter 15 = .ok (.bipush 40, 2) := by decide +kernel
theorem dX9_addVoter_17 : decode cX9_addVoter 17 = .ok (.if_icmp .lt 13, 3) := by decide +kernel
theorem dX9_addVoter_20 : decode cX9_addVoter 20 = .ok (.new 46, 3) := by decide +kernel
theorem dX9_addVoter_23 : decode cX9_addVoter 23 = .ok (.dup, 1) := by decide +kernel
theorem dX9_addVoter_24 : decode cX9_addVoter 24 = .ok (.ldc 86, 2) := by decide +kernel
theorem dX9_addVoter_26 : decode cX9_addVoter 26 = .ok (.invokespecial 50, 3) := by decide +kernel
theorem dX9_addVoter_29 : decode cX9_addVoter 29 = .ok (.athrow, 1) := by decide +kernel
theorem dX9_addVoter_30 : decode cX9_addVoter 30 = .ok (.aload_n 0, 1) := by decide +kernel
theorem dX9_addVoter_31 : decode cX9_addVoter 31 = .ok (.iconst 3, 1) := by decide +kernel
theorem dX9_addVoter_32 : decode cX9_addVoter 32 = .ok (.iload_n 1, 1) := by decide +kernel
theorem dX9_addVoter_33 : decode cX9_addVoter 33 = .ok (.iconst 0, 1) := by decide +kernel
theorem dX9_addVoter_34 : decode cX9_addVoter 34 = .ok (.iconst 0, 1) := by decide +kernel
theorem dX9_addVoter_35 : decode cX9_addVoter 35 = .ok (.invokevirtual 54, 3) := by decide +kernel
theorem dX9_addVoter_38 : decode cX9_addVoter 38 = .ok (.aload_n 0, 1) := by decide +kernel
theorem dX9_addVoter_39 : decode cX9_addVoter 39 = .ok (.getfield 10, 3) := by decide +kernel
theorem dX9_addVoter_42 : decode cX9_addVoter 42 = .ok (.getfield 68, 3) := by decide +kernel
theorem dX9_addVoter_45 : decode cX9_addVoter 45 = .ok (.getfield 83, 3) := by decide +kernel
theorem dX9_addVoter_48 : decode cX9_addVoter 48 = .ok (.iconst 1, 1) := by decide +kernel
theorem dX9_addVoter_49 : decode cX9_addVoter 49 = .ok (.isub, 1) := by decide +kernel
theorem dX9_addVoter_50 : decode cX9_addVoter 50 = .ok (.ireturn, 1) := by decide +kernel
theorem dX9_move_0 : decode cX9_move 0 = .ok (.aload_n 0, 1) := by decide +kernel
theorem dX9_move_1 : decode cX9_move 1 = .ok (.iload_n 1, 1) := by decide +kernel
theorem dX9_move_2 : decode cX9_move 2 = .ok (.invokevirtual 88, 3) := by decide +kernel
theorem dX9_move_5 : decode cX9_move 5 = .ok (.aload_n 0, 1) := by decide +kernel
theorem dX9_move_6 : decode cX9_move 6 = .ok (.iload_n 2, 1) := by decide +kernel
theorem dX9_move_7 : decode cX9_move 7 = .ok (.invokevirtual 79, 3) := by decide +kernel
theorem dX9_move_10 : decode cX9_move 10 = .ok (.aload_n 0, 1) := by decide +kernel
theorem dX9_move_11 : decode cX9_move 11 = .ok (.getfield 10, 3) := by decide +kernel
theorem dX9_move_14 : decode cX9_move 14 = .ok (.getfield 68, 3) := by decide +kernel
theorem dX9_move_17 : decode cX9_move 17 = .ok (.getfield 91, 3) := by decide +kernel
theorem dX9_move_20 : decode cX9_move 20 = .ok (.iload_n 1, 1) := by decide +kernel
theorem dX9_move_21 : decode cX9_move 21 = .ok (.aaload, 1) := by decide +kernel
theorem dX9_move_22 : decode cX9_move 22 = .ok (.getfield 95, 3) := by decide +kernel
theorem dX9_move_25 : decode cX9_move 25 = .ok (.istore_n 3, 1) := by decide +kernel
theorem dX9_move_26 : decode cX9_move 26 = .ok (.iload_n 3, 1) := by decide +kernel
theorem dX9_move_27 : decode cX9_move 27 = .ok (.iload_n 2, 1) := by decide +kernel
theorem dX9_move_28 : decode cX9_move 28 = .ok (.if_icmp .ne 13, 3) := by decide +kernel
theorem dX9_move_31 : decode cX9_move 31 = .ok (.new 100, 3) := by decide +kernel
theorem dX9_move_34 : decode cX9_move 34 = .ok (.dup, 1) := by decide +kernel
theorem dX9_move_35 : decode cX9_move 35 = .ok (.ldc 102, 2) := by decide +kernel
theorem dX9_move_37 : decode cX9_move 37 = .ok (.invokespecial 104, 3) := by decide +kernel
theorem dX9_move_40 : decode cX9_move 40 = .ok (.athrow, 1) := by decide +kernel
theorem dX9_move_41 : decode cX9_move 41 = .ok (.aload_n 0, 1) := by decide +kernel
theorem dX9_move_42 : decode cX9_move 42 = .ok (.iconst 4, 1) := by decide +kernel
theorem dX9_move_43 : decode cX9_move 43 = .ok (.iload_n 1, 1) := by decide +kernel
theorem dX9_move_44 : decode cX9_move 44 = .ok (.iload_n 2, 1) := by decide +kernel
theorem dX9_move_45 : decode cX9_move 45 = .ok (.iconst 0, 1) := by decide +kernel
theorem dX9_move_46 : decode cX9_move 46 = .ok (.invokevirtual 54, 3) := by decide +kernel
theorem dX9_move_49 : decode cX9_move 49 = .ok (.iload_n 3, 1) := by decide +kernel
theorem dX9_move_50 : decode cX9_move 50 = .ok (.ireturn, 1) := by decide +kernel
theorem dX9_strike_0 : decode cX9_strike 0 = .ok (.aload_n 0, 1) := by decide +kernel
theorem dX9_strike_1 : decode cX9_strike 1 = .ok (.iload_n 1, 1) := by decide +kernel
theorem dX9_strike_2 : decode cX9_strike 2 = .ok (.invokevirtual 88, 3) := by decide +kernel
theorem dX9_strike_5 : decode cX9_strike 5 = .ok (.aload_n 0, 1) := by decide +kernel
theorem dX9_strike_6 : decode cX9_strike 6 = .ok (.getfield 10, 3) := by decide +kernel
theorem dX9_strike_9 : decode cX9_strike 9 = .ok (.getfield 68, 3) := by decide +kernel
theorem dX9_strike_12 : decode cX9_strike 12 = .ok (.getfield 91, 3) := by decide +kernel
theorem dX9_strike_15 : decode cX9_strike 15 = .ok (.iload_n 1, 1) := by decide +kernel
theorem dX9_strike_16 : decode cX9_strike 16 = .ok (.aaload, 1) := by decide +kernel
theorem dX9_strike_17 : decode cX9_strike 17 = .ok (.getfield 105, 3) := by decide +kernel
theorem dX9_strike_20 : decode cX9_strike 20 = .ok (.ifCond .ne 13, 3) := by decide +kernel
theorem dX9_strike_23 : decode cX9_strike 23 = .ok (.new 46, 3) := by decide +kernel
theorem dX9_strike_26 : decode cX9_strike 26 = .ok (.dup, 1) := by decide +kernel
theorem dX9_strike_27 : decode cX9_strike 27 = .ok (.ldc 109, 2) := by decide +kernel
theorem dX9_strike_29 : decode cX9_strike 29 = .ok (.invokespecial 50, 3) := by decide +kernel
theorem dX9_strike_32 : decode cX9_strike 32 = .ok (.athrow, 1) := by decide +kernel
theorem dX9_strike_33 : decode cX9_strike 33 = .ok (.aload_n 0, 1) := by decide +kernel
theorem dX9_strike_34 : decode cX9_strike 34 = .ok (.iconst 5, 1) := by decide +kernel
theorem dX9_strike_35 : decode cX9_strike 35 = .ok (.iload_n 1, 1) := by decide +kernel
theorem dX9_strike_36 : decode cX9_strike 36 = .ok (.iconst 0, 1) := by decide +kernel
theorem dX9_strike_37 : decode cX9_strike 37 = .ok (.iconst 0, 1) := by decide +kernel
theorem dX9_strike_38 : decode cX9_strike 38 = .ok (.invokevirtual 54, 3) := by decide +kernel
theorem dX9_strike_41 : decode cX9_strike 41 = .ok (.aload_n 0, 1) := by decide +kernel
theorem dX9_strike_42 : decode cX9_strike 42 = .ok (.getfield 10, 3) := by decide +kernel
theorem dX9_strike_45 : decode cX9_strike 45 = .ok (.getfield 68, 3) := by decide +kernel
theorem dX9_strike_48 : decode cX9_strike 48 = .ok (.invokevirtual 111, 3) := by decide +kernel
theorem dX9_strike_51 : decode cX9_strike 51 = .ok (.ireturn, 1) := by decide +kernel
theorem dX9_restore_0 : decode cX9_restore 0 = .ok (.aload_n 0, 1) := by decide +kernel
theorem dX9_restore_1 : decode cX9_restore 1 = .ok (.iload_n 1, 1) := by decide +kernel
theorem dX9_restore_2 : decode cX9_restore 2 = .ok (.invokevirtual 88, 3) := by decide +kernel
theorem dX9_restore_5 : decode cX9_restore 5 = .ok (.aload_n 0, 1) := by decide +kernel
theorem dX9_restore_6 : decode cX9_restore 6 = .ok (.getfield 10, 3) := by decide +kernel
theorem dX9_restore_9 : decode cX9_restore 9 = .ok (.getfield 68, 3) := by decide +kernel
theorem dX9_restore_12 : decode cX9_restore 12 = .ok (.getfield 91, 3) := by decide +kernel
theorem dX9_restore_15 : decode cX9_restore 15 = .ok (.iload_n 1, 1) := by decide +kernel
theorem dX9_restore_16 : decode cX9_restore 16 = .ok (.aaload, 1) := by decide +kernel
theorem dX9_restore_17 : decode cX9_restore 17 = .ok (.getfield 105, 3) := by decide +kernel
theorem dX9_restore_20 : decode cX9_restore 20 = .ok (.ifCond .eq 13, 3) := by decide +kernel
theorem dX9_restore_23 : decode cX9_restore 23 = .ok (.new 46, 3) := by decide +kernel
theorem dX9_restore_26 : decode cX9_restore 26 = .ok (.dup, 1) := by decide +kernel
theorem dX9_restore_27 : decode cX9_restore 27 = .ok (.ldc 115, 2) := by decide +kernel
theorem dX9_restore_29 : decode cX9_restore 29 = .ok (.invokespecial 50, 3) := by decide +kernel
theorem dX9_restore_32 : decode cX9_restore 32 = .ok (.athrow, 1) := by decide +kernel
theorem dX9_restore_33 : decode cX9_restore 33 = .ok (.aload_n 0, 1) := by decide +kernel
theorem dX9_restore_34 : decode cX9_restore 34 = .ok (.bipush 6, 2) := by decide +kernel
theorem dX9_restore_36 : decode cX9_restore 36 = .ok (.iload_n 1, 1) := by decide +kernel
theorem dX9_restore_37 : decode cX9_restore 37 = .ok (.iconst 0, 1) := by decide +kernel
theorem dX9_restore_38 : decode cX9_restore 38 = .ok (.iconst 0, 1) := by decide +kernel
theorem dX9_restore_39 : decode cX9_restore 39 = .ok (.invokevirtual 54, 3) := by decide +kernel
theorem dX9_restore_42 : decode cX9_restore 42 = .ok (.aload_n 0, 1) := by decide +kernel
theorem dX9_restore_43 : decode cX9_restore 43 = .ok (.getfield 10, 3) := by decide +kernel
theorem dX9_restore_46 : decode cX9_restore 46 = .ok (.getfield 68, 3) := by decide +kernel
theorem dX9_restore_49 : decode cX9_restore 49 = .ok (.invokevirtual 111, 3) := by decide +kernel
theorem dX9_restore_52 : decode cX9_restore 52 = .ok (.ireturn, 1) := by decide +kernel
theorem dX9_areaOf_0 : decode cX9_areaOf 0 = .ok (.aload_n 0, 1) := by decide +kernel
theorem dX9_areaOf_1 : decode cX9_areaOf 1 = .ok (.iload_n 1, 1) := by decide +kernel
theorem dX9_areaOf_2 : decode cX9_areaOf 2 = .ok (.invokevirtual 88, 3) := by decide +kernel
theorem dX9_areaOf_5 : decode cX9_areaOf 5 = .ok (.aload_n 0, 1) := by decide +kernel
theorem dX9_areaOf_6 : decode cX9_areaOf 6 = .ok (.getfield 10, 3) := by decide +kernel
theorem dX9_areaOf_9 : decode cX9_areaOf 9 = .ok (.getfield 68, 3) := by decide +kernel
theorem dX9_areaOf_12 : decode cX9_areaOf 12 = .ok (.getfield 91, 3) := by decide +kernel
theorem dX9_areaOf_15 : decode cX9_areaOf 15 = .ok (.iload_n 1, 1) := by decide +kernel
theorem dX9_areaOf_16 : decode cX9_areaOf 16 = .ok (.aaload, 1) := by decide +kernel
theorem dX9_areaOf_17 : decode cX9_areaOf 17 = .ok (.getfield 95, 3) := by decide +kernel
theorem dX9_areaOf_20 : decode cX9_areaOf 20 = .ok (.ireturn, 1) := by decide +kernel
theorem dX9_isOnRoll_0 : decode cX9_isOnRoll 0 = .ok (.aload_n 0, 1) := by decide +kernel
theorem dX9_isOnRoll_1 : decode cX9_isOnRoll 1 = .ok (.iload_n 1, 1) := by decide +kernel
theorem dX9_isOnRoll_2 : decode cX9_isOnRoll 2 = .ok (.invokevirtual 88, 3) := by decide +kernel
theorem dX9_isOnRoll_5 : decode cX9_isOnRoll 5 = .ok (.aload_n 0, 1) := by decide +kernel
theorem dX9_isOnRoll_6 : decode cX9_isOnRoll 6 = .ok (.getfield 10, 3) := by decide +kernel
theorem dX9_isOnRoll_9 : decode cX9_isOnRoll 9 = .ok (.getfield 68, 3) := by decide +kernel
theorem dX9_isOnRoll_12 : decode cX9_isOnRoll 12 = .ok (.getfield 91, 3) := by decide +kernel
theorem dX9_isOnRoll_15 : decode cX9_isOnRoll 15 = .ok (.iload_n 1, 1) := by decide +kernel
theorem dX9_isOnRoll_16 : decode cX9_isOnRoll 16 = .ok (.aaload, 1) := by decide +kernel
theorem dX9_isOnRoll_17 : decode cX9_isOnRoll 17 = .ok (.getfield 105, 3) := by decide +kernel
theorem dX9_isOnRoll_20 : decode cX9_isOnRoll 20 = .ok (.ireturn, 1) := by decide +kernel
theorem dX9_file_0 : decode cX9_file 0 = .ok (.aload_n 0, 1) := by decide +kernel
theorem dX9_file_1 : decode cX9_file 1 = .ok (.iload_n 1, 1) := by decide +kernel
theorem dX9_file_2 : decode cX9_file 2 = .ok (.invokevirtual 79, 3) := by decide +kernel
theorem dX9_file_5 : decode cX9_file 5 = .ok (.iload_n 2, 1) := by decide +kernel
theorem dX9_file_6 : decode cX9_file 6 = .ok (.iconst (-1), 1) := by decide +kernel
theorem dX9_file_7 : decode cX9_file 7 = .ok (.if_icmp .lt 9, 3) := by decide +kernel
theorem dX9_file_10 : decode cX9_file 10 = .ok (.iload_n 2, 1) := by decide +kernel
theorem dX9_file_11 : decode cX9_file 11 = .ok (.bipush 7, 2) := by decide +kernel
theorem dX9_file_13 : decode cX9_file 13 = .ok (.if_icmp .le 13, 3) := by decide +kernel
theorem dX9_file_16 : decode cX9_file 16 = .ok (.new 26, 3) := by decide +kernel
theorem dX9_file_19 : decode cX9_file 19 = .ok (.dup, 1) := by decide +kernel
theorem dX9_file_20 : decode cX9_file 20 = .ok (.ldc 117, 2) := by decide +kernel
theorem dX9_file_22 : decode cX9_file 22 = .ok (.invokespecial 30, 3) := by decide +kernel
theorem dX9_file_25 : decode cX9_file 25 = .ok (.athrow, 1) := by decide +kernel
theorem dX9_file_26 : decode cX9_file 26 = .ok (.aload_n 0, 1) := by decide +kernel
theorem dX9_file_27 : decode cX9_file 27 = .ok (.iload_n 3, 1) := by decide +kernel
theorem dX9_file_28 : decode cX9_file 28 = .ok (.iload 4, 2) := by decide +kernel
theorem dX9_file_30 : decode cX9_file 30 = .ok (.iload 5, 2) := by decide +kernel
theorem dX9_file_32 : decode cX9_file 32 = .ok (.iload 6, 2) := by decide +kernel
theorem dX9_file_34 : decode cX9_file 34 = .ok (.invokevirtual 119, 3) := by decide +kernel
theorem dX9_file_37 : decode cX9_file 37 = .ok (.aload_n 0, 1) := by decide +kernel
theorem dX9_file_38 : decode cX9_file 38 = .ok (.invokevirtual 123, 3) := by decide +kernel
theorem dX9_file_41 : decode cX9_file 41 = .ok (.aload_n 0, 1) := by decide +kernel
theorem dX9_file_42 : decode cX9_file 42 = .ok (.getfield 10, 3) := by decide +kernel
theorem dX9_file_45 : decode cX9_file 45 = .ok (.getfield 43, 3) := by decide +kernel
theorem dX9_file_48 : decode cX9_file 48 = .ok (.bipush 12, 2) := by decide +kernel
theorem dX9_file_50 : decode cX9_file 50 = .ok (.if_icmp .lt 13, 3) := by decide +kernel
theorem dX9_file_53 : decode cX9_file 53 = .ok (.new 46, 3) := by decide +kernel
theorem dX9_file_56 : decode cX9_file 56 = .ok (.dup, 1) := by decide +kernel
theorem dX9_file_57 : decode cX9_file 57 = .ok (.ldc 126, 2) := by decide +kernel
theorem dX9_file_59 : decode cX9_file 59 = .ok (.invokespecial 50, 3) := by decide +kernel
theorem dX9_file_62 : decode cX9_file 62 = .ok (.athrow, 1) := by decide +kernel
theorem dX9_file_63 : decode cX9_file 63 = .ok (.aload_n 0, 1) := by decide +kernel
theorem dX9_file_64 : decode cX9_file 64 = .ok (.bipush 7, 2) := by decide +kernel
theorem dX9_file_66 : decode cX9_file 66 = .ok (.iload_n 1, 1) := by decide +kernel
theorem dX9_file_67 : decode cX9_file 67 = .ok (.iload_n 2, 1) := by decide +kernel
theorem dX9_file_68 : decode cX9_file 68 = .ok (.iload_n 3, 1) := by decide +kernel
theorem dX9_file_69 : decode cX9_file 69 = .ok (.iload 4, 2) := by decide +kernel
theorem dX9_file_71 : decode cX9_file 71 = .ok (.iload 5, 2) := by decide +kernel
theorem dX9_file_73 : decode cX9_file 73 = .ok (.iload 6, 2) := by decide +kernel
theorem dX9_file_75 : decode cX9_file 75 = .ok (.invokestatic 128, 3) := by decide +kernel
theorem dX9_file_78 : decode cX9_file 78 = .ok (.invokevirtual 54, 3) := by decide +kernel
theorem dX9_file_81 : decode cX9_file 81 = .ok (.aload_n 0, 1) := by decide +kernel
theorem dX9_file_82 : decode cX9_file 82 = .ok (.getfield 10, 3) := by decide +kernel
theorem dX9_file_85 : decode cX9_file 85 = .ok (.getfield 43, 3) := by decide +kernel
theorem dX9_file_88 : decode cX9_file 88 = .ok (.iconst 1, 1) := by decide +kernel
theorem dX9_file_89 : decode cX9_file 89 = .ok (.isub, 1) := by decide +kernel
theorem dX9_file_90 : decode cX9_file 90 = .ok (.ireturn, 1) := by decide +kernel
theorem dX9_sign_0 : decode cX9_sign 0 = .ok (.aload_n 0, 1) := by decide +kernel
theorem dX9_sign_1 : decode cX9_sign 1 = .ok (.iload_n 1, 1) := by decide +kernel
theorem dX9_sign_2 : decode cX9_sign 2 = .ok (.invokevirtual 132, 3) := by decide +kernel
theorem dX9_sign_5 : decode cX9_sign 5 = .ok (.aload_n 0, 1) := by decide +kernel
theorem dX9_sign_6 : decode cX9_sign 6 = .ok (.iload_n 2, 1) := by decide +kernel
theorem dX9_sign_7 : decode cX9_sign 7 = .ok (.invokevirtual 88, 3) := by decide +kernel
theorem dX9_sign_10 : decode cX9_sign 10 = .ok (.aload_n 0, 1) := by decide +kernel
theorem dX9_sign_11 : decode cX9_sign 11 = .ok (.invokevirtual 123, 3) := by decide +kernel
theorem dX9_sign_14 : decode cX9_sign 14 = .ok (.aload_n 0, 1) := by decide +kernel
theorem dX9_sign_15 : decode cX9_sign 15 = .ok (.iload_n 1, 1) := by decide +kernel
theorem dX9_sign_16 : decode cX9_sign 16 = .ok (.invokevirtual 135, 3) := by decide +kernel
theorem dX9_sign_19 : decode cX9_sign 19 = .ok (.aload_n 0, 1) := by decide +kernel
theorem dX9_sign_20 : decode cX9_sign 20 = .ok (.getfield 10, 3) := by decide +kernel
theorem dX9_sign_23 : decode cX9_sign 23 = .ok (.getfield 138, 3) := by decide +kernel
theorem dX9_sign_26 : decode cX9_sign 26 = .ok (.sipush 150, 3) := by decide +kernel
theorem dX9_sign_29 : decode cX9_sign 29 = .ok (.if_icmp .lt 13, 3) := by decide +kernel
theorem dX9_sign_32 : decode cX9_sign 32 = .ok (.new 46, 3) := by decide +kernel
theorem dX9_sign_35 : decode cX9_sign 35 = .ok (.dup, 1) := by decide +kernel
theorem dX9_sign_36 : decode cX9_sign 36 = .ok (.ldc 141, 2) := by decide +kernel
theorem dX9_sign_38 : decode cX9_sign 38 = .ok (.invokespecial 50, 3) := by decide +kernel
theorem dX9_sign_41 : decode cX9_sign 41 = .ok (.athrow, 1) := by decide +kernel
theorem dX9_sign_42 : decode cX9_sign 42 = .ok (.aload_n 0, 1) := by decide +kernel
theorem dX9_sign_43 : decode cX9_sign 43 = .ok (.bipush 8, 2) := by decide +kernel
theorem dX9_sign_45 : decode cX9_sign 45 = .ok (.iload_n 1, 1) := by decide +kernel
theorem dX9_sign_46 : decode cX9_sign 46 = .ok (.iload_n 2, 1) := by decide +kernel
theorem dX9_sign_47 : decode cX9_sign 47 = .ok (.iconst 0, 1) := by decide +kernel
theorem dX9_sign_48 : decode cX9_sign 48 = .ok (.invokevirtual 54, 3) := by decide +kernel
theorem dX9_sign_51 : decode cX9_sign 51 = .ok (.aload_n 0, 1) := by decide +kernel
theorem dX9_sign_52 : decode cX9_sign 52 = .ok (.getfield 10, 3) := by decide +kernel
theorem dX9_sign_55 : decode cX9_sign 55 = .ok (.getfield 138, 3) := by decide +kernel
theorem dX9_sign_58 : decode cX9_sign 58 = .ok (.iconst 1, 1) := by decide +kernel
theorem dX9_sign_59 : decode cX9_sign 59 = .ok (.isub, 1) := by decide +kernel
theorem dX9_sign_60 : decode cX9_sign 60 = .ok (.ireturn, 1) := by decide +kernel
theorem dX9_pay_0 : decode cX9_pay 0 = .ok (.aload_n 0, 1) := by decide +kernel
theorem dX9_pay_1 : decode cX9_pay 1 = .ok (.iload_n 1, 1) := by decide +kernel
theorem dX9_pay_2 : decode cX9_pay 2 = .ok (.invokevirtual 132, 3) := by decide +kernel
theorem dX9_pay_5 : decode cX9_pay 5 = .ok (.iload_n 2, 1) := by decide +kernel
theorem dX9_pay_6 : decode cX9_pay 6 = .ok (.iconst 1, 1) := by decide +kernel
theorem dX9_pay_7 : decode cX9_pay 7 = .ok (.if_icmp .lt 10, 3) := by decide +kernel
theorem dX9_pay_10 : decode cX9_pay 10 = .ok (.iload_n 2, 1) := by decide +kernel
theorem dX9_pay_11 : decode cX9_pay 11 = .ok (.sipush 1000, 3) := by decide +kernel
theorem dX9_pay_14 : decode cX9_pay 14 = .ok (.if_icmp .le 13, 3) := by decide +kernel
theorem dX9_pay_17 : decode cX9_pay 17 = .ok (.new 26, 3) := by decide +kernel
theorem dX9_pay_20 : decode cX9_pay 20 = .ok (.dup, 1) := by decide +kernel
theorem dX9_pay_21 : decode cX9_pay 21 = .ok (.ldc 143, 2) := by decide +kernel
theorem dX9_pay_23 : decode cX9_pay 23 = .ok (.invokespecial 30, 3) := by decide +kernel
theorem dX9_pay_26 : decode cX9_pay 26 = .ok (.athrow, 1) := by decide +kernel
theorem dX9_pay_27 : decode cX9_pay 27 = .ok (.aload_n 0, 1) := by decide +kernel
theorem dX9_pay_28 : decode cX9_pay 28 = .ok (.invokevirtual 123, 3) := by decide +kernel
theorem dX9_pay_31 : decode cX9_pay 31 = .ok (.aload_n 0, 1) := by decide +kernel
theorem dX9_pay_32 : decode cX9_pay 32 = .ok (.iload_n 1, 1) := by decide +kernel
theorem dX9_pay_33 : decode cX9_pay 33 = .ok (.invokevirtual 135, 3) := by decide +kernel
theorem dX9_pay_36 : decode cX9_pay 36 = .ok (.aload_n 0, 1) := by decide +kernel
theorem dX9_pay_37 : decode cX9_pay 37 = .ok (.bipush 9, 2) := by decide +kernel
theorem dX9_pay_39 : decode cX9_pay 39 = .ok (.iload_n 1, 1) := by decide +kernel
theorem dX9_pay_40 : decode cX9_pay 40 = .ok (.iload_n 2, 1) := by decide +kernel
theorem dX9_pay_41 : decode cX9_pay 41 = .ok (.iconst 0, 1) := by decide +kernel
theorem dX9_pay_42 : decode cX9_pay 42 = .ok (.invokevirtual 54, 3) := by decide +kernel
theorem dX9_pay_45 : decode cX9_pay 45 = .ok (.aload_n 0, 1) := by decide +kernel
theorem dX9_pay_46 : decode cX9_pay 46 = .ok (.getfield 10, 3) := by decide +kernel
theorem dX9_pay_49 : decode cX9_pay 49 = .ok (.getfield 145, 3) := by decide +kernel
theorem dX9_pay_52 : decode cX9_pay 52 = .ok (.iload_n 1, 1) := by decide +kernel
theorem dX9_pay_53 : decode cX9_pay 53 = .ok (.aaload, 1) := by decide +kernel
theorem dX9_pay_54 : decode cX9_pay 54 = .ok (.getfield 149, 3) := by decide +kernel
theorem dX9_pay_57 : decode cX9_pay 57 = .ok (.ireturn, 1) := by decide +kernel
theorem dX9_withdraw_0 : decode cX9_withdraw 0 = .ok (.aload_n 0, 1) := by decide +kernel
theorem dX9_withdraw_1 : decode cX9_withdraw 1 = .ok (.iload_n 1, 1) := by decide +kernel
theorem dX9_withdraw_2 : decode cX9_withdraw 2 = .ok (.invokevirtual 132, 3) := by decide +kernel
theorem dX9_withdraw_5 : decode cX9_withdraw 5 = .ok (.aload_n 0, 1) := by decide +kernel
theorem dX9_withdraw_6 : decode cX9_withdraw 6 = .ok (.iload_n 1, 1) := by decide +kernel
theorem dX9_withdraw_7 : decode cX9_withdraw 7 = .ok (.invokevirtual 135, 3) := by decide +kernel
theorem dX9_withdraw_10 : decode cX9_withdraw 10 = .ok (.aload_n 0, 1) := by decide +kernel
theorem dX9_withdraw_11 : decode cX9_withdraw 11 = .ok (.iload_n 1, 1) := by decide +kernel
theorem dX9_withdraw_12 : decode cX9_withdraw 12 = .ok (.invokevirtual 154, 3) := by decide +kernel
theorem dX9_withdraw_15 : decode cX9_withdraw 15 = .ok (.aload_n 0, 1) := by decide +kernel
theorem dX9_withdraw_16 : decode cX9_withdraw 16 = .ok (.getfield 10, 3) := by decide +kernel
theorem dX9_withdraw_19 : decode cX9_withdraw 19 = .ok (.getfield 33, 3) := by decide +kernel
theorem dX9_withdraw_22 : decode cX9_withdraw 22 = .ok (.invokevirtual 157, 3) := by decide +kernel
theorem dX9_withdraw_25 : decode cX9_withdraw 25 = .ok (.ifCond .ne 13, 3) := by decide +kernel
theorem dX9_withdraw_28 : decode cX9_withdraw 28 = .ok (.new 46, 3) := by decide +kernel
theorem dX9_withdraw_31 : decode cX9_withdraw 31 = .ok (.dup, 1) := by decide +kernel
theorem dX9_withdraw_32 : decode cX9_withdraw 32 = .ok (.ldc 160, 2) := by decide +kernel
theorem dX9_withdraw_34 : decode cX9_withdraw 34 = .ok (.invokespecial 50, 3) := by decide +kernel
theorem dX9_withdraw_37 : decode cX9_withdraw 37 = .ok (.athrow, 1) := by decide +kernel
theorem dX9_withdraw_38 : decode cX9_withdraw 38 = .ok (.aload_n 0, 1) := by decide +kernel
theorem dX9_withdraw_39 : decode cX9_withdraw 39 = .ok (.getfield 10, 3) := by decide +kernel
theorem dX9_withdraw_42 : decode cX9_withdraw 42 = .ok (.iload_n 1, 1) := by decide +kernel
theorem dX9_withdraw_43 : decode cX9_withdraw 43 = .ok (.invokevirtual 162, 3) := by decide +kernel
theorem dX9_withdraw_46 : decode cX9_withdraw 46 = .ok (.istore_n 2, 1) := by decide +kernel
theorem dX9_withdraw_47 : decode cX9_withdraw 47 = .ok (.aload_n 0, 1) := by decide +kernel
theorem dX9_withdraw_48 : decode cX9_withdraw 48 = .ok (.bipush 10, 2) := by decide +kernel
theorem dX9_withdraw_50 : decode cX9_withdraw 50 = .ok (.iload_n 1, 1) := by decide +kernel
theorem dX9_withdraw_51 : decode cX9_withdraw 51 = .ok (.iconst 0, 1) := by decide +kernel
theorem dX9_withdraw_52 : decode cX9_withdraw 52 = .ok (.iconst 0, 1) := by decide +kernel
theorem dX9_withdraw_53 : decode cX9_withdraw 53 = .ok (.invokevirtual 54, 3) := by decide +kernel
theorem dX9_withdraw_56 : decode cX9_withdraw 56 = .ok (.aload_n 0, 1) := by decide +kernel
theorem dX9_withdraw_57 : decode cX9_withdraw 57 = .ok (.getfield 10, 3) := by decide +kernel
theorem dX9_withdraw_60 : decode cX9_withdraw 60 = .ok (.iload_n 1, 1) := by decide +kernel
theorem dX9_withdraw_61 : decode cX9_withdraw 61 = .ok (.invokevirtual 162, 3) := by decide +kernel
theorem dX9_withdraw_64 : decode cX9_withdraw 64 = .ok (.iload_n 2, 1) := by decide +kernel
theorem dX9_withdraw_65 : decode cX9_withdraw 65 = .ok (.isub, 1) := by decide +kernel
theorem dX9_withdraw_66 : decode cX9_withdraw 66 = .ok (.ireturn, 1) := by decide +kernel
theorem dX9_die_0 : decode cX9_die 0 = .ok (.aload_n 0, 1) := by decide +kernel
theorem dX9_die_1 : decode cX9_die 1 = .ok (.iload_n 1, 1) := by decide +kernel
theorem dX9_die_2 : decode cX9_die 2 = .ok (.invokevirtual 132, 3) := by decide +kernel
theorem dX9_die_5 : decode cX9_die 5 = .ok (.aload_n 0, 1) := by decide +kernel
theorem dX9_die_6 : decode cX9_die 6 = .ok (.iload_n 1, 1) := by decide +kernel
theorem dX9_die_7 : decode cX9_die 7 = .ok (.invokevirtual 135, 3) := by decide +kernel
theorem dX9_die_10 : decode cX9_die 10 = .ok (.aload_n 0, 1) := by decide +kernel
theorem dX9_die_11 : decode cX9_die 11 = .ok (.iload_n 1, 1) := by decide +kernel
theorem dX9_die_12 : decode cX9_die 12 = .ok (.invokevirtual 154, 3) := by decide +kernel
theorem dX9_die_15 : decode cX9_die 15 = .ok (.aload_n 0, 1) := by decide +kernel
theorem dX9_die_16 : decode cX9_die 16 = .ok (.getfield 10, 3) := by decide +kernel
theorem dX9_die_19 : decode cX9_die 19 = .ok (.getfield 145, 3) := by decide +kernel
theorem dX9_die_22 : decode cX9_die 22 = .ok (.iload_n 1, 1) := by decide +kernel
theorem dX9_die_23 : decode cX9_die 23 = .ok (.aaload, 1) := by decide +kernel
theorem dX9_die_24 : decode cX9_die 24 = .ok (.getfield 166, 3) := by decide +kernel
theorem dX9_die_27 : decode cX9_die 27 = .ok (.ifCond .eq 13, 3) := by decide +kernel
theorem dX9_die_30 : decode cX9_die 30 = .ok (.new 46, 3) := by decide +kernel
theorem dX9_die_33 : decode cX9_die 33 = .ok (.dup, 1) := by decide +kernel
theorem dX9_die_34 : decode cX9_die 34 = .ok (.ldc 169, 2) := by decide +kernel
theorem dX9_die_36 : decode cX9_die 36 = .ok (.invokespecial 50, 3) := by decide +kernel
theorem dX9_die_39 : decode cX9_die 39 = .ok (.athrow, 1) := by decide +kernel
theorem dX9_die_40 : decode cX9_die 40 = .ok (.aload_n 0, 1) := by decide +kernel
theorem dX9_die_41 : decode cX9_die 41 = .ok (.getfield 10, 3) := by decide +kernel
theorem dX9_die_44 : decode cX9_die 44 = .ok (.getfield 33, 3) := by decide +kernel
theorem dX9_die_47 : decode cX9_die 47 = .ok (.invokevirtual 171, 3) := by decide +kernel
theorem dX9_die_50 : decode cX9_die 50 = .ok (.ifCond .eq 13, 3) := by decide +kernel
theorem dX9_die_53 : decode cX9_die 53 = .ok (.new 46, 3) := by decide +kernel
theorem dX9_die_56 : decode cX9_die 56 = .ok (.dup, 1) := by decide +kernel
theorem dX9_die_57 : decode cX9_die 57 = .ok (.ldc 174, 2) := by decide +kernel
theorem dX9_die_59 : decode cX9_die 59 = .ok (.invokespecial 50, 3) := by decide +kernel
theorem dX9_die_62 : decode cX9_die 62 = .ok (.athrow, 1) := by decide +kernel
theorem dX9_die_63 : decode cX9_die 63 = .ok (.aload_n 0, 1) := by decide +kernel
theorem dX9_die_64 : decode cX9_die 64 = .ok (.bipush 11, 2) := by decide +kernel
theorem dX9_die_66 : decode cX9_die 66 = .ok (.iload_n 1, 1) := by decide +kernel
theorem dX9_die_67 : decode cX9_die 67 = .ok (.iconst 0, 1) := by decide +kernel
theorem dX9_die_68 : decode cX9_die 68 = .ok (.iconst 0, 1) := by decide +kernel
theorem dX9_die_69 : decode cX9_die 69 = .ok (.invokevirtual 54, 3) := by decide +kernel
theorem dX9_die_72 : decode cX9_die 72 = .ok (.aload_n 0, 1) := by decide +kernel
theorem dX9_die_73 : decode cX9_die 73 = .ok (.getfield 10, 3) := by decide +kernel
theorem dX9_die_76 : decode cX9_die 76 = .ok (.iload_n 1, 1) := by decide +kernel
theorem dX9_die_77 : decode cX9_die 77 = .ok (.invokevirtual 176, 3) := by decide +kernel
theorem dX9_die_80 : decode cX9_die 80 = .ok (.ireturn, 1) := by decide +kernel
theorem dX9_replace_0 : decode cX9_replace 0 = .ok (.aload_n 0, 1) := by decide +kernel
theorem dX9_replace_1 : decode cX9_replace 1 = .ok (.iload_n 1, 1) := by decide +kernel
theorem dX9_replace_2 : decode cX9_replace 2 = .ok (.invokevirtual 132, 3) := by decide +kernel
theorem dX9_replace_5 : decode cX9_replace 5 = .ok (.aload_n 0, 1) := by decide +kernel
theorem dX9_replace_6 : decode cX9_replace 6 = .ok (.iload_n 2, 1) := by decide +kernel
theorem dX9_replace_7 : decode cX9_replace 7 = .ok (.iload_n 3, 1) := by decide +kernel
theorem dX9_replace_8 : decode cX9_replace 8 = .ok (.iload 4, 2) := by decide +kernel
theorem dX9_replace_10 : decode cX9_replace 10 = .ok (.iload 5, 2) := by decide +kernel
theorem dX9_replace_12 : decode cX9_replace 12 = .ok (.invokevirtual 119, 3) := by decide +kernel
theorem dX9_replace_15 : decode cX9_replace 15 = .ok (.aload_n 0, 1) := by decide +kernel
theorem dX9_replace_16 : decode cX9_replace 16 = .ok (.getfield 10, 3) := by decide +kernel
theorem dX9_replace_19 : decode cX9_replace 19 = .ok (.iload_n 1, 1) := by decide +kernel
theorem dX9_replace_20 : decode cX9_replace 20 = .ok (.invokevirtual 176, 3) := by decide +kernel
theorem dX9_replace_23 : decode cX9_replace 23 = .ok (.ifCond .ne 13, 3) := by decide +kernel
theorem dX9_replace_26 : decode cX9_replace 26 = .ok (.new 46, 3) := by decide +kernel
theorem dX9_replace_29 : decode cX9_replace 29 = .ok (.dup, 1) := by decide +kernel
theorem dX9_replace_30 : decode cX9_replace 30 = .ok (.ldc 180, 2) := by decide +kernel
theorem dX9_replace_32 : decode cX9_replace 32 = .ok (.invokespecial 50, 3) := by decide +kernel
theorem dX9_replace_35 : decode cX9_replace 35 = .ok (.athrow, 1) := by decide +kernel
theorem dX9_replace_36 : decode cX9_replace 36 = .ok (.aload_n 0, 1) := by decide +kernel
theorem dX9_replace_37 : decode cX9_replace 37 = .ok (.bipush 12, 2) := by decide +kernel
theorem dX9_replace_39 : decode cX9_replace 39 = .ok (.iload_n 1, 1) := by decide +kernel
theorem dX9_replace_40 : decode cX9_replace 40 = .ok (.iload_n 2, 1) := by decide +kernel
theorem dX9_replace_41 : decode cX9_replace 41 = .ok (.iload_n 3, 1) := by decide +kernel
theorem dX9_replace_42 : decode cX9_replace 42 = .ok (.iload 4, 2) := by decide +kernel
theorem dX9_replace_44 : decode cX9_replace 44 = .ok (.iload 5, 2) := by decide +kernel
theorem dX9_replace_46 : decode cX9_replace 46 = .ok (.invokestatic 128, 3) := by decide +kernel
theorem dX9_replace_49 : decode cX9_replace 49 = .ok (.iconst 0, 1) := by decide +kernel
theorem dX9_replace_50 : decode cX9_replace 50 = .ok (.invokevirtual 54, 3) := by decide +kernel
theorem dX9_replace_53 : decode cX9_replace 53 = .ok (.aload_n 0, 1) := by decide +kernel
theorem dX9_replace_54 : decode cX9_replace 54 = .ok (.getfield 10, 3) := by decide +kernel
theorem dX9_replace_57 : decode cX9_replace 57 = .ok (.getfield 145, 3) := by decide +kernel
theorem dX9_replace_60 : decode cX9_replace 60 = .ok (.iload_n 1, 1) := by decide +kernel
theorem dX9_replace_61 : decode cX9_replace 61 = .ok (.aaload, 1) := by decide +kernel
theorem dX9_replace_62 : decode cX9_replace 62 = .ok (.getfield 182, 3) := by decide +kernel
theorem dX9_replace_65 : decode cX9_replace 65 = .ok (.ireturn, 1) := by decide +kernel
theorem dX9_isReplaceable_0 : decode cX9_isReplaceable 0 = .ok (.aload_n 0, 1) := by decide +kernel
theorem dX9_isReplaceable_1 : decode cX9_isReplaceable 1 = .ok (.iload_n 1, 1) := by decide +kernel
theorem dX9_isReplaceable_2 : decode cX9_isReplaceable 2 = .ok (.invokevirtual 132, 3) := by decide +kernel
theorem dX9_isReplaceable_5 : decode cX9_isReplaceable 5 = .ok (.aload_n 0, 1) := by decide +kernel
theorem dX9_isReplaceable_6 : decode cX9_isReplaceable 6 = .ok (.getfield 10, 3) := by decide +kernel
theorem dX9_isReplaceable_9 : decode cX9_isReplaceable 9 = .ok (.iload_n 1, 1) := by decide +kernel
theorem dX9_isReplaceable_10 : decode cX9_isReplaceable 10 = .ok (.invokevirtual 176, 3) := by decide +kernel
theorem dX9_isReplaceable_13 : decode cX9_isReplaceable 13 = .ok (.ireturn, 1) := by decide +kernel
theorem dX9_surname_0 : decode cX9_surname 0 = .ok (.aload_n 0, 1) := by decide +kernel
theorem dX9_surname_1 : decode cX9_surname 1 = .ok (.iload_n 1, 1) := by decide +kernel
theorem dX9_surname_2 : decode cX9_surname 2 = .ok (.invokevirtual 132, 3) := by decide +kernel
theorem dX9_surname_5 : decode cX9_surname 5 = .ok (.iload_n 2, 1) := by decide +kernel
theorem dX9_surname_6 : decode cX9_surname 6 = .ok (.ifCond .lt 8, 3) := by decide +kernel
theorem dX9_surname_9 : decode cX9_surname 9 = .ok (.iload_n 2, 1) := by decide +kernel
theorem dX9_surname_10 : decode cX9_surname 10 = .ok (.iconst 4, 1) := by decide +kernel
theorem dX9_surname_11 : decode cX9_surname 11 = .ok (.if_icmp .lt 13, 3) := by decide +kernel
theorem dX9_surname_14 : decode cX9_surname 14 = .ok (.new 185, 3) := by decide +kernel
theorem dX9_surname_17 : decode cX9_surname 17 = .ok (.dup, 1) := by decide +kernel
theorem dX9_surname_18 : decode cX9_surname 18 = .ok (.ldc 187, 2) := by decide +kernel
theorem dX9_surname_20 : decode cX9_surname 20 = .ok (.invokespecial 189, 3) := by decide +kernel
theorem dX9_surname_23 : decode cX9_surname 23 = .ok (.athrow, 1) := by decide +kernel
theorem dX9_surname_24 : decode cX9_surname 24 = .ok (.aload_n 0, 1) := by decide +kernel
theorem dX9_surname_25 : decode cX9_surname 25 = .ok (.getfield 10, 3) := by decide +kernel
theorem dX9_surname_28 : decode cX9_surname 28 = .ok (.getfield 145, 3) := by decide +kernel
theorem dX9_surname_31 : decode cX9_surname 31 = .ok (.iload_n 1, 1) := by decide +kernel
theorem dX9_surname_32 : decode cX9_surname 32 = .ok (.aaload, 1) := by decide +kernel
theorem dX9_surname_33 : decode cX9_surname 33 = .ok (.getfield 190, 3) := by decide +kernel
theorem dX9_surname_36 : decode cX9_surname 36 = .ok (.iload_n 2, 1) := by decide +kernel
theorem dX9_surname_37 : decode cX9_surname 37 = .ok (.invokestatic 193, 3) := by decide +kernel
theorem dX9_surname_40 : decode cX9_surname 40 = .ok (.ireturn, 1) := by decide +kernel
theorem dX9_papers_0 : decode cX9_papers 0 = .ok (.aload_n 0, 1) := by decide +kernel
theorem dX9_papers_1 : decode cX9_papers 1 = .ok (.getfield 10, 3) := by decide +kernel
theorem dX9_papers_4 : decode cX9_papers 4 = .ok (.getfield 43, 3) := by decide +kernel
theorem dX9_papers_7 : decode cX9_papers 7 = .ok (.ireturn, 1) := by decide +kernel
theorem dX9_counted_0 : decode cX9_counted 0 = .ok (.aload_n 0, 1) := by decide +kernel
theorem dX9_counted_1 : decode cX9_counted 1 = .ok (.iload_n 1, 1) := by decide +kernel
theorem dX9_counted_2 : decode cX9_counted 2 = .ok (.invokevirtual 132, 3) := by decide +kernel
theorem dX9_counted_5 : decode cX9_counted 5 = .ok (.aload_n 0, 1) := by decide +kernel
theorem dX9_counted_6 : decode cX9_counted 6 = .ok (.getfield 10, 3) := by decide +kernel
theorem dX9_counted_9 : decode cX9_counted 9 = .ok (.getfield 145, 3) := by decide +kernel
theorem dX9_counted_12 : decode cX9_counted 12 = .ok (.iload_n 1, 1) := by decide +kernel
theorem dX9_counted_13 : decode cX9_counted 13 = .ok (.aaload, 1) := by decide +kernel
theorem dX9_counted_14 : decode cX9_counted 14 = .ok (.getfield 197, 3) := by decide +kernel
theorem dX9_counted_17 : decode cX9_counted 17 = .ok (.ireturn, 1) := by decide +kernel
theorem dX9_signatureResult_0 : decode cX9_signatureResult 0 = .ok (.iload_n 1, 1) := by decide +kernel
theorem dX9_signatureResult_1 : decode cX9_signatureResult 1 = .ok (.ifCond .lt 14, 3) := by decide +kernel
theorem dX9_signatureResult_4 : decode cX9_signatureResult 4 = .ok (.iload_n 1, 1) := by decide +kernel
theorem dX9_signatureResult_5 : decode cX9_signatureResult 5 = .ok (.aload_n 0, 1) := by decide +kernel
theorem dX9_signatureResult_6 : decode cX9_signatureResult 6 = .ok (.getfield 10, 3) := by decide +kernel
theorem dX9_signatureResult_9 : decode cX9_signatureResult 9 = .ok (.getfield 138, 3) := by decide +kernel
theorem dX9_signatureResult_12 : decode cX9_signatureResult 12 = .ok (.if_icmp .lt 13, 3) := by decide +kernel
theorem dX9_signatureResult_15 : decode cX9_signatureResult 15 = .ok (.new 185, 3) := by decide +kernel
theorem dX9_signatureResult_18 : decode cX9_signatureResult 18 = .ok (.dup, 1) := by decide +kernel
theorem dX9_signatureResult_19 : decode cX9_signatureResult 19 = .ok (.ldc 200, 2) := by decide +kernel
theorem dX9_signatureResult_21 : decode cX9_signatureResult 21 = .ok (.invokespecial 189, 3) := by decide +kernel
theorem dX9_signatureResult_24 : decode cX9_signatureResult 24 = .ok (.athrow, 1) := by decide +kernel
theorem dX9_signatureResult_25 : decode cX9_signatureResult 25 = .ok (.aload_n 0, 1) := by decide +kernel
theorem dX9_signatureResult_26 : decode cX9_signatureResult 26 = .ok (.getfield 10, 3) := by decide +kernel
theorem dX9_signatureResult_29 : decode cX9_signatureResult 29 = .ok (.getfield 202, 3) := by decide +kernel
theorem dX9_signatureResult_32 : decode cX9_signatureResult 32 = .ok (.iload_n 1, 1) := by decide +kernel
theorem dX9_signatureResult_33 : decode cX9_signatureResult 33 = .ok (.aaload, 1) := by decide +kernel
theorem dX9_signatureResult_34 : decode cX9_signatureResult 34 = .ok (.getfield 206, 3) := by decide +kernel
theorem dX9_signatureResult_37 : decode cX9_signatureResult 37 = .ok (.ireturn, 1) := by decide +kernel
theorem dX9_wouldCount_0 : decode cX9_wouldCount 0 = .ok (.aload_n 0, 1) := by decide +kernel
theorem dX9_wouldCount_1 : decode cX9_wouldCount 1 = .ok (.iload_n 1, 1) := by decide +kernel
theorem dX9_wouldCount_2 : decode cX9_wouldCount 2 = .ok (.invokevirtual 132, 3) := by decide +kernel
theorem dX9_wouldCount_5 : decode cX9_wouldCount 5 = .ok (.aload_n 0, 1) := by decide +kernel
theorem dX9_wouldCount_6 : decode cX9_wouldCount 6 = .ok (.iload_n 2, 1) := by decide +kernel
theorem dX9_wouldCount_7 : decode cX9_wouldCount 7 = .ok (.invokevirtual 88, 3) := by decide +kernel
theorem dX9_wouldCount_10 : decode cX9_wouldCount 10 = .ok (.aload_n 0, 1) := by decide +kernel
theorem dX9_wouldCount_11 : decode cX9_wouldCount 11 = .ok (.invokevirtual 123, 3) := by decide +kernel
theorem dX9_wouldCount_14 : decode cX9_wouldCount 14 = .ok (.aload_n 0, 1) := by decide +kernel
theorem dX9_wouldCount_15 : decode cX9_wouldCount 15 = .ok (.iload_n 1, 1) := by decide +kernel
theorem dX9_wouldCount_16 : decode cX9_wouldCount 16 = .ok (.invokevirtual 135, 3) := by decide +kernel
theorem dX9_wouldCount_19 : decode cX9_wouldCount 19 = .ok (.aload_n 0, 1) := by decide +kernel
theorem dX9_wouldCount_20 : decode cX9_wouldCount 20 = .ok (.getfield 10, 3) := by decide +kernel
theorem dX9_wouldCount_23 : decode cX9_wouldCount 23 = .ok (.iload_n 1, 1) := by decide +kernel
theorem dX9_wouldCount_24 : decode cX9_wouldCount 24 = .ok (.iload_n 2, 1) := by decide +kernel
theorem dX9_wouldCount_25 : decode cX9_wouldCount 25 = .ok (.invokevirtual 211, 3) := by decide +kernel
theorem dX9_wouldCount_28 : decode cX9_wouldCount 28 = .ok (.ireturn, 1) := by decide +kernel
theorem dX9_paperOf_0 : decode cX9_paperOf 0 = .ok (.aload_n 0, 1) := by decide +kernel
theorem dX9_paperOf_1 : decode cX9_paperOf 1 = .ok (.iload_n 1, 1) := by decide +kernel
theorem dX9_paperOf_2 : decode cX9_paperOf 2 = .ok (.invokevirtual 88, 3) := by decide +kernel
theorem dX9_paperOf_5 : decode cX9_paperOf 5 = .ok (.aload_n 0, 1) := by decide +kernel
theorem dX9_paperOf_6 : decode cX9_paperOf 6 = .ok (.getfield 10, 3) := by decide +kernel
theorem dX9_paperOf_9 : decode cX9_paperOf 9 = .ok (.iload_n 1, 1) := by decide +kernel
theorem dX9_paperOf_10 : decode cX9_paperOf 10 = .ok (.invokevirtual 215, 3) := by decide +kernel
theorem dX9_paperOf_13 : decode cX9_paperOf 13 = .ok (.istore_n 2, 1) := by decide +kernel
theorem dX9_paperOf_14 : decode cX9_paperOf 14 = .ok (.iload_n 2, 1) := by decide +kernel
theorem dX9_paperOf_15 : decode cX9_paperOf 15 = .ok (.iconst (-1), 1) := by decide +kernel
theorem dX9_paperOf_16 : decode cX9_paperOf 16 = .ok (.if_icmp .ne 13, 3) := by decide +kernel
theorem dX9_paperOf_19 : decode cX9_paperOf 19 = .ok (.new 218, 3) := by decide +kernel
theorem dX9_paperOf_22 : decode cX9_paperOf 22 = .ok (.dup, 1) := by decide +kernel
theorem dX9_paperOf_23 : decode cX9_paperOf 23 = .ok (.ldc 220, 2) := by decide +kernel
theorem dX9_paperOf_25 : decode cX9_paperOf 25 = .ok (.invokespecial 222, 3) := by decide +kernel
theorem dX9_paperOf_28 : decode cX9_paperOf 28 = .ok (.athrow, 1) := by decide +kernel
theorem dX9_paperOf_29 : decode cX9_paperOf 29 = .ok (.iload_n 2, 1) := by decide +kernel
theorem dX9_paperOf_30 : decode cX9_paperOf 30 = .ok (.ireturn, 1) := by decide +kernel
theorem dX9_gain_0 : decode cX9_gain 0 = .ok (.aload_n 0, 1) := by decide +kernel
theorem dX9_gain_1 : decode cX9_gain 1 = .ok (.iload_n 1, 1) := by decide +kernel
theorem dX9_gain_2 : decode cX9_gain 2 = .ok (.invokevirtual 132, 3) := by decide +kernel
theorem dX9_gain_5 : decode cX9_gain 5 = .ok (.aload_n 0, 1) := by decide +kernel
theorem dX9_gain_6 : decode cX9_gain 6 = .ok (.iload_n 2, 1) := by decide +kernel
theorem dX9_gain_7 : decode cX9_gain 7 = .ok (.invokevirtual 132, 3) := by decide +kernel
theorem dX9_gain_10 : decode cX9_gain 10 = .ok (.iload_n 1, 1) := by decide +kernel
theorem dX9_gain_11 : decode cX9_gain 11 = .ok (.iload_n 2, 1) := by decide +kernel
theorem dX9_gain_12 : decode cX9_gain 12 = .ok (.if_icmp .ne 13, 3) := by decide +kernel
theorem dX9_gain_15 : decode cX9_gain 15 = .ok (.new 26, 3) := by decide +kernel
theorem dX9_gain_18 : decode cX9_gain 18 = .ok (.dup, 1) := by decide +kernel
theorem dX9_gain_19 : decode cX9_gain 19 = .ok (.ldc 223, 2) := by decide +kernel
theorem dX9_gain_21 : decode cX9_gain 21 = .ok (.invokespecial 30, 3) := by decide +kernel
theorem dX9_gain_24 : decode cX9_gain 24 = .ok (.athrow, 1) := by decide +kernel
theorem dX9_gain_25 : decode cX9_gain 25 = .ok (.aload_n 0, 1) := by decide +kernel
theorem dX9_gain_26 : decode cX9_gain 26 = .ok (.invokevirtual 123, 3) := by decide +kernel
theorem dX9_gain_29 : decode cX9_gain 29 = .ok (.aload_n 0, 1) := by decide +kernel
theorem dX9_gain_30 : decode cX9_gain 30 = .ok (.iload_n 1, 1) := by decide +kernel
theorem dX9_gain_31 : decode cX9_gain 31 = .ok (.invokevirtual 135, 3) := by decide +kernel
theorem dX9_gain_34 : decode cX9_gain 34 = .ok (.aload_n 0, 1) := by decide +kernel
theorem dX9_gain_35 : decode cX9_gain 35 = .ok (.getfield 10, 3) := by decide +kernel
theorem dX9_gain_38 : decode cX9_gain 38 = .ok (.iload_n 1, 1) := by decide +kernel
theorem dX9_gain_39 : decode cX9_gain 39 = .ok (.iload_n 2, 1) := by decide +kernel
theorem dX9_gain_40 : decode cX9_gain 40 = .ok (.invokevirtual 225, 3) := by decide +kernel
theorem dX9_gain_43 : decode cX9_gain 43 = .ok (.ireturn, 1) := by decide +kernel
theorem dX9_fewestWithdrawals_0 : decode cX9_fewestWithdrawals 0 = .ok (.aload_n 0, 1) := by decide +kernel
theorem dX9_fewestWithdrawals_1 : decode cX9_fewestWithdrawals 1 = .ok (.iload_n 1, 1) := by decide +kernel
theorem dX9_fewestWithdrawals_2 : decode cX9_fewestWithdrawals 2 = .ok (.invokevirtual 132, 3) := by decide +kernel
theorem dX9_fewestWithdrawals_5 : decode cX9_fewestWithdrawals 5 = .ok (.aload_n 0, 1) := by decide +kernel
theorem dX9_fewestWithdrawals_6 : decode cX9_fewestWithdrawals 6 = .ok (.invokevirtual 123, 3) := by decide +kernel
theorem dX9_fewestWithdrawals_9 : decode cX9_fewestWithdrawals 9 = .ok (.aload_n 0, 1) := by decide +kernel
theorem dX9_fewestWithdrawals_10 : decode cX9_fewestWithdrawals 10 = .ok (.iload_n 1, 1) := by decide +kernel
theorem dX9_fewestWithdrawals_11 : decode cX9_fewestWithdrawals 11 = .ok (.invokevirtual 135, 3) := by decide +kernel
theorem dX9_fewestWithdrawals_14 : decode cX9_fewestWithdrawals 14 = .ok (.aload_n 0, 1) := by decide +kernel
theorem dX9_fewestWithdrawals_15 : decode cX9_fewestWithdrawals 15 = .ok (.getfield 10, 3) := by decide +kernel
theorem dX9_fewestWithdrawals_18 : decode cX9_fewestWithdrawals 18 = .ok (.iload_n 1, 1) := by decide +kernel
theorem dX9_fewestWithdrawals_19 : decode cX9_fewestWithdrawals 19 = .ok (.invokevirtual 229, 3) := by decide +kernel
theorem dX9_fewestWithdrawals_22 : decode cX9_fewestWithdrawals 22 = .ok (.istore_n 2, 1) := by decide +kernel
theorem dX9_fewestWithdrawals_23 : decode cX9_fewestWithdrawals 23 = .ok (.iload_n 2, 1) := by decide +kernel
theorem dX9_fewestWithdrawals_24 : decode cX9_fewestWithdrawals 24 = .ok (.iconst (-1), 1) := by decide +kernel
theorem dX9_fewestWithdrawals_25 : decode cX9_fewestWithdrawals 25 = .ok (.if_icmp .ne 13, 3) := by decide +kernel
theorem dX9_fewestWithdrawals_28 : decode cX9_fewestWithdrawals 28 = .ok (.new 218, 3) := by decide +kernel
theorem dX9_fewestWithdrawals_31 : decode cX9_fewestWithdrawals 31 = .ok (.dup, 1) := by decide +kernel
theorem dX9_fewestWithdrawals_32 : decode cX9_fewestWithdrawals 32 = .ok (.ldc 232, 2) := by decide +kernel
theorem dX9_fewestWithdrawals_34 : decode cX9_fewestWithdrawals 34 = .ok (.invokespecial 222, 3) := by decide +kernel
theorem dX9_fewestWithdrawals_37 : decode cX9_fewestWithdrawals 37 = .ok (.athrow, 1) := by decide +kernel
theorem dX9_fewestWithdrawals_38 : decode cX9_fewestWithdrawals 38 = .ok (.iload_n 2, 1) := by decide +kernel
theorem dX9_fewestWithdrawals_39 : decode cX9_fewestWithdrawals 39 = .ok (.ireturn, 1) := by decide +kernel
theorem dX9_signatures_0 : decode cX9_signatures 0 = .ok (.aload_n 0, 1) := by decide +kernel
theorem dX9_signatures_1 : decode cX9_signatures 1 = .ok (.getfield 10, 3) := by decide +kernel
theorem dX9_signatures_4 : decode cX9_signatures 4 = .ok (.getfield 138, 3) := by decide +kernel
theorem dX9_signatures_7 : decode cX9_signatures 7 = .ok (.ireturn, 1) := by decide +kernel
theorem dX9_reason_0 : decode cX9_reason 0 = .ok (.aload_n 0, 1) := by decide +kernel
theorem dX9_reason_1 : decode cX9_reason 1 = .ok (.iload_n 1, 1) := by decide +kernel
theorem dX9_reason_2 : decode cX9_reason 2 = .ok (.invokevirtual 132, 3) := by decide +kernel
theorem dX9_reason_5 : decode cX9_reason 5 = .ok (.aload_n 0, 1) := by decide +kernel
theorem dX9_reason_6 : decode cX9_reason 6 = .ok (.getfield 10, 3) := by decide +kernel
theorem dX9_reason_9 : decode cX9_reason 9 = .ok (.iload_n 1, 1) := by decide +kernel
theorem dX9_reason_10 : decode cX9_reason 10 = .ok (.invokevirtual 234, 3) := by decide +kernel
theorem dX9_reason_13 : decode cX9_reason 13 = .ok (.ireturn, 1) := by decide +kernel
theorem dX9_reasonByReplay_0 : decode cX9_reasonByReplay 0 = .ok (.aload_n 0, 1) := by decide +kernel
theorem dX9_reasonByReplay_1 : decode cX9_reasonByReplay 1 = .ok (.iload_n 1, 1) := by decide +kernel
theorem dX9_reasonByReplay_2 : decode cX9_reasonByReplay 2 = .ok (.invokevirtual 132, 3) := by decide +kernel
theorem dX9_reasonByReplay_5 : decode cX9_reasonByReplay 5 = .ok (.aload_n 0, 1) := by decide +kernel
theorem dX9_reasonByReplay_6 : decode cX9_reasonByReplay 6 = .ok (.getfield 16, 3) := by decide +kernel
theorem dX9_reasonByReplay_9 : decode cX9_reasonByReplay 9 = .ok (.invokevirtual 237, 3) := by decide +kernel
theorem dX9_reasonByReplay_12 : decode cX9_reasonByReplay 12 = .ok (.iconst 0, 1) := by decide +kernel
theorem dX9_reasonByReplay_13 : decode cX9_reasonByReplay 13 = .ok (.istore_n 2, 1) := by decide +kernel
theorem dX9_reasonByReplay_14 : decode cX9_reasonByReplay 14 = .ok (.iload_n 2, 1) := by decide +kernel
theorem dX9_reasonByReplay_15 : decode cX9_reasonByReplay 15 = .ok (.aload_n 0, 1) := by decide +kernel
theorem dX9_reasonByReplay_16 : decode cX9_reasonByReplay 16 = .ok (.getfield 22, 3) := by decide +kernel
theorem dX9_reasonByReplay_19 : decode cX9_reasonByReplay 19 = .ok (.getfield 240, 3) := by decide +kernel
theorem dX9_reasonByReplay_22 : decode cX9_reasonByReplay 22 = .ok (.if_icmp .ge 52, 3) := by decide +kernel
theorem dX9_reasonByReplay_25 : decode cX9_reasonByReplay 25 = .ok (.aload_n 0, 1) := by decide +kernel
theorem dX9_reasonByReplay_26 : decode cX9_reasonByReplay 26 = .ok (.getfield 16, 3) := by decide +kernel
theorem dX9_reasonByReplay_29 : decode cX9_reasonByReplay 29 = .ok (.aload_n 0, 1) := by decide +kernel
theorem dX9_reasonByReplay_30 : decode cX9_reasonByReplay 30 = .ok (.getfield 22, 3) := by decide +kernel
theorem dX9_reasonByReplay_33 : decode cX9_reasonByReplay 33 = .ok (.getfield 243, 3) := by decide +kernel
theorem dX9_reasonByReplay_36 : decode cX9_reasonByReplay 36 = .ok (.iload_n 2, 1) := by decide +kernel
theorem dX9_reasonByReplay_37 : decode cX9_reasonByReplay 37 = .ok (.iaload, 1) := by decide +kernel
theorem dX9_reasonByReplay_38 : decode cX9_reasonByReplay 38 = .ok (.aload_n 0, 1) := by decide +kernel
theorem dX9_reasonByReplay_39 : decode cX9_reasonByReplay 39 = .ok (.getfield 22, 3) := by decide +kernel
theorem dX9_reasonByReplay_42 : decode cX9_reasonByReplay 42 = .ok (.getfield 247, 3) := by decide +kernel
theorem dX9_reasonByReplay_45 : decode cX9_reasonByReplay 45 = .ok (.iload_n 2, 1) := by decide +kernel
theorem dX9_reasonByReplay_46 : decode cX9_reasonByReplay 46 = .ok (.iaload, 1) := by decide +kernel
theorem dX9_reasonByReplay_47 : decode cX9_reasonByReplay 47 = .ok (.aload_n 0, 1) := by decide +kernel
theorem dX9_reasonByReplay_48 : decode cX9_reasonByReplay 48 = .ok (.getfield 22, 3) := by decide +kernel
theorem dX9_reasonByReplay_51 : decode cX9_reasonByReplay 51 = .ok (.getfield 250, 3) := by decide +kernel
theorem dX9_reasonByReplay_54 : decode cX9_reasonByReplay 54 = .ok (.iload_n 2, 1) := by decide +kernel
theorem dX9_reasonByReplay_55 : decode cX9_reasonByReplay 55 = .ok (.iaload, 1) := by decide +kernel
theorem dX9_reasonByReplay_56 : decode cX9_reasonByReplay 56 = .ok (.aload_n 0, 1) := by decide +kernel
theorem dX9_reasonByReplay_57 : decode cX9_reasonByReplay 57 = .ok (.getfield 22, 3) := by decide +kernel
theorem dX9_reasonByReplay_60 : decode cX9_reasonByReplay 60 = .ok (.getfield 253, 3) := by decide +kernel
theorem dX9_reasonByReplay_63 : decode cX9_reasonByReplay 63 = .ok (.iload_n 2, 1) := by decide +kernel
theorem dX9_reasonByReplay_64 : decode cX9_reasonByReplay 64 = .ok (.iaload, 1) := by decide +kernel
theorem dX9_reasonByReplay_65 : decode cX9_reasonByReplay 65 = .ok (.invokevirtual 256, 3) := by decide +kernel
theorem dX9_reasonByReplay_68 : decode cX9_reasonByReplay 68 = .ok (.iinc 2 1, 3) := by decide +kernel
theorem dX9_reasonByReplay_71 : decode cX9_reasonByReplay 71 = .ok (.goto (-57), 3) := by decide +kernel
theorem dX9_reasonByReplay_74 : decode cX9_reasonByReplay 74 = .ok (.aload_n 0, 1) := by decide +kernel
theorem dX9_reasonByReplay_75 : decode cX9_reasonByReplay 75 = .ok (.getfield 16, 3) := by decide +kernel
theorem dX9_reasonByReplay_78 : decode cX9_reasonByReplay 78 = .ok (.invokevirtual 257, 3) := by decide +kernel
theorem dX9_reasonByReplay_81 : decode cX9_reasonByReplay 81 = .ok (.aload_n 0, 1) := by decide +kernel
theorem dX9_reasonByReplay_82 : decode cX9_reasonByReplay 82 = .ok (.getfield 16, 3) := by decide +kernel
theorem dX9_reasonByReplay_85 : decode cX9_reasonByReplay 85 = .ok (.iload_n 1, 1) := by decide +kernel
theorem dX9_reasonByReplay_86 : decode cX9_reasonByReplay 86 = .ok (.invokevirtual 234, 3) := by decide +kernel
theorem dX9_reasonByReplay_89 : decode cX9_reasonByReplay 89 = .ok (.ireturn, 1) := by decide +kernel
theorem dX9_ballotSize_0 : decode cX9_ballotSize 0 = .ok (.aload_n 0, 1) := by decide +kernel
theorem dX9_ballotSize_1 : decode cX9_ballotSize 1 = .ok (.iload_n 1, 1) := by decide +kernel
theorem dX9_ballotSize_2 : decode cX9_ballotSize 2 = .ok (.invokevirtual 79, 3) := by decide +kernel
theorem dX9_ballotSize_5 : decode cX9_ballotSize 5 = .ok (.aload_n 0, 1) := by decide +kernel
theorem dX9_ballotSize_6 : decode cX9_ballotSize 6 = .ok (.getfield 10, 3) := by decide +kernel
theorem dX9_ballotSize_9 : decode cX9_ballotSize 9 = .ok (.iload_n 1, 1) := by decide +kernel
theorem dX9_ballotSize_10 : decode cX9_ballotSize 10 = .ok (.invokevirtual 260, 3) := by decide +kernel
theorem dX9_ballotSize_13 : decode cX9_ballotSize 13 = .ok (.ireturn, 1) := by decide +kernel
theorem dX9_draw_0 : decode cX9_draw 0 = .ok (.aload_n 0, 1) := by decide +kernel
theorem dX9_draw_1 : decode cX9_draw 1 = .ok (.getfield 10, 3) := by decide +kernel
theorem dX9_draw_4 : decode cX9_draw 4 = .ok (.getfield 33, 3) := by decide +kernel
theorem dX9_draw_7 : decode cX9_draw 7 = .ok (.invokevirtual 62, 3) := by decide +kernel
theorem dX9_draw_10 : decode cX9_draw 10 = .ok (.ifCond .eq 14, 3) := by decide +kernel
theorem dX9_draw_13 : decode cX9_draw 13 = .ok (.new 46, 3) := by decide +kernel
theorem dX9_draw_16 : decode cX9_draw 16 = .ok (.dup, 1) := by decide +kernel
theorem dX9_draw_17 : decode cX9_draw 17 = .ok (.ldc_w 263, 3) := by decide +kernel
theorem dX9_draw_20 : decode cX9_draw 20 = .ok (.invokespecial 50, 3) := by decide +kernel
theorem dX9_draw_23 : decode cX9_draw 23 = .ok (.athrow, 1) := by decide +kernel
theorem dX9_draw_24 : decode cX9_draw 24 = .ok (.aload_n 0, 1) := by decide +kernel
theorem dX9_draw_25 : decode cX9_draw 25 = .ok (.getfield 10, 3) := by decide +kernel
theorem dX9_draw_28 : decode cX9_draw 28 = .ok (.getfield 265, 3) := by decide +kernel
theorem dX9_draw_31 : decode cX9_draw 31 = .ok (.getfield 269, 3) := by decide +kernel
theorem dX9_draw_34 : decode cX9_draw 34 = .ok (.ifCond .eq 14, 3) := by decide +kernel
theorem dX9_draw_37 : decode cX9_draw 37 = .ok (.new 46, 3) := by decide +kernel
theorem dX9_draw_40 : decode cX9_draw 40 = .ok (.dup, 1) := by decide +kernel
theorem dX9_draw_41 : decode cX9_draw 41 = .ok (.ldc_w 274, 3) := by decide +kernel
theorem dX9_draw_44 : decode cX9_draw 44 = .ok (.invokespecial 50, 3) := by decide +kernel
theorem dX9_draw_47 : decode cX9_draw 47 = .ok (.athrow, 1) := by decide +kernel
theorem dX9_draw_48 : decode cX9_draw 48 = .ok (.aload_n 0, 1) := by decide +kernel
theorem dX9_draw_49 : decode cX9_draw 49 = .ok (.bipush 13, 2) := by decide +kernel
theorem dX9_draw_51 : decode cX9_draw 51 = .ok (.iload_n 1, 1) := by decide +kernel
theorem dX9_draw_52 : decode cX9_draw 52 = .ok (.iconst 0, 1) := by decide +kernel
theorem dX9_draw_53 : decode cX9_draw 53 = .ok (.iconst 0, 1) := by decide +kernel
theorem dX9_draw_54 : decode cX9_draw 54 = .ok (.invokevirtual 54, 3) := by decide +kernel
theorem dX9_draw_57 : decode cX9_draw 57 = .ok (.aload_n 0, 1) := by decide +kernel
theorem dX9_draw_58 : decode cX9_draw 58 = .ok (.getfield 10, 3) := by decide +kernel
theorem dX9_draw_61 : decode cX9_draw 61 = .ok (.getfield 265, 3) := by decide +kernel
theorem dX9_draw_64 : decode cX9_draw 64 = .ok (.getfield 276, 3) := by decide +kernel
theorem dX9_draw_67 : decode cX9_draw 67 = .ok (.iconst 0, 1) := by decide +kernel
theorem dX9_draw_68 : decode cX9_draw 68 = .ok (.caload, 1) := by decide +kernel
theorem dX9_draw_69 : decode cX9_draw 69 = .ok (.ireturn, 1) := by decide +kernel
theorem dX9_letter_0 : decode cX9_letter 0 = .ok (.iload_n 1, 1) := by decide +kernel
theorem dX9_letter_1 : decode cX9_letter 1 = .ok (.ifCond .lt 9, 3) := by decide +kernel
theorem dX9_letter_4 : decode cX9_letter 4 = .ok (.iload_n 1, 1) := by decide +kernel
theorem dX9_letter_5 : decode cX9_letter 5 = .ok (.bipush 26, 2) := by decide +kernel
theorem dX9_letter_7 : decode cX9_letter 7 = .ok (.if_icmp .lt 13, 3) := by decide +kernel
theorem dX9_letter_10 : decode cX9_letter 10 = .ok (.new 185, 3) := by decide +kernel
theorem dX9_letter_13 : decode cX9_letter 13 = .ok (.dup, 1) := by decide +kernel
theorem dX9_letter_14 : decode cX9_letter 14 = .ok (.ldc 187, 2) := by decide +kernel
theorem dX9_letter_16 : decode cX9_letter 16 = .ok (.invokespecial 189, 3) := by decide +kernel
theorem dX9_letter_19 : decode cX9_letter 19 = .ok (.athrow, 1) := by decide +kernel
theorem dX9_letter_20 : decode cX9_letter 20 = .ok (.aload_n 0, 1) := by decide +kernel
theorem dX9_letter_21 : decode cX9_letter 21 = .ok (.invokevirtual 280, 3) := by decide +kernel
theorem dX9_letter_24 : decode cX9_letter 24 = .ok (.aload_n 0, 1) := by decide +kernel
theorem dX9_letter_25 : decode cX9_letter 25 = .ok (.getfield 10, 3) := by decide +kernel
theorem dX9_letter_28 : decode cX9_letter 28 = .ok (.getfield 265, 3) := by decide +kernel
theorem dX9_letter_31 : decode cX9_letter 31 = .ok (.getfield 276, 3) := by decide +kernel
theorem dX9_letter_34 : decode cX9_letter 34 = .ok (.iload_n 1, 1) := by decide +kernel
theorem dX9_letter_35 : decode cX9_letter 35 = .ok (.caload, 1) := by decide +kernel
theorem dX9_letter_36 : decode cX9_letter 36 = .ok (.ireturn, 1) := by decide +kernel
theorem dX9_ballot_0 : decode cX9_ballot 0 = .ok (.aload_n 0, 1) := by decide +kernel
theorem dX9_ballot_1 : decode cX9_ballot 1 = .ok (.iload_n 1, 1) := by decide +kernel
theorem dX9_ballot_2 : decode cX9_ballot 2 = .ok (.invokevirtual 79, 3) := by decide +kernel
theorem dX9_ballot_5 : decode cX9_ballot 5 = .ok (.aload_n 0, 1) := by decide +kernel
theorem dX9_ballot_6 : decode cX9_ballot 6 = .ok (.iload_n 2, 1) := by decide +kernel
theorem dX9_ballot_7 : decode cX9_ballot 7 = .ok (.invokevirtual 283, 3) := by decide +kernel
theorem dX9_ballot_10 : decode cX9_ballot 10 = .ok (.aload_n 0, 1) := by decide +kernel
theorem dX9_ballot_11 : decode cX9_ballot 11 = .ok (.invokevirtual 280, 3) := by decide +kernel
theorem dX9_ballot_14 : decode cX9_ballot 14 = .ok (.aload_n 0, 1) := by decide +kernel
theorem dX9_ballot_15 : decode cX9_ballot 15 = .ok (.getfield 10, 3) := by decide +kernel
theorem dX9_ballot_18 : decode cX9_ballot 18 = .ok (.iload_n 1, 1) := by decide +kernel
theorem dX9_ballot_19 : decode cX9_ballot 19 = .ok (.invokevirtual 260, 3) := by decide +kernel
theorem dX9_ballot_22 : decode cX9_ballot 22 = .ok (.istore 4, 2) := by decide +kernel
theorem dX9_ballot_24 : decode cX9_ballot 24 = .ok (.iload_n 3, 1) := by decide +kernel
theorem dX9_ballot_25 : decode cX9_ballot 25 = .ok (.ifCond .lt 9, 3) := by decide +kernel
theorem dX9_ballot_28 : decode cX9_ballot 28 = .ok (.iload_n 3, 1) := by decide +kernel
theorem dX9_ballot_29 : decode cX9_ballot 29 = .ok (.iload 4, 2) := by decide +kernel
theorem dX9_ballot_31 : decode cX9_ballot 31 = .ok (.if_icmp .lt 14, 3) := by decide +kernel
theorem dX9_ballot_34 : decode cX9_ballot 34 = .ok (.new 218, 3) := by decide +kernel
theorem dX9_ballot_37 : decode cX9_ballot 37 = .ok (.dup, 1) := by decide +kernel
theorem dX9_ballot_38 : decode cX9_ballot 38 = .ok (.ldc_w 286, 3) := by decide +kernel
theorem dX9_ballot_41 : decode cX9_ballot 41 = .ok (.invokespecial 222, 3) := by decide +kernel
theorem dX9_ballot_44 : decode cX9_ballot 44 = .ok (.athrow, 1) := by decide +kernel
theorem dX9_ballot_45 : decode cX9_ballot 45 = .ok (.aload_n 0, 1) := by decide +kernel
theorem dX9_ballot_46 : decode cX9_ballot 46 = .ok (.getfield 10, 3) := by decide +kernel
theorem dX9_ballot_49 : decode cX9_ballot 49 = .ok (.iload_n 1, 1) := by decide +kernel
theorem dX9_ballot_50 : decode cX9_ballot 50 = .ok (.iload_n 2, 1) := by decide +kernel
theorem dX9_ballot_51 : decode cX9_ballot 51 = .ok (.iload_n 3, 1) := by decide +kernel
theorem dX9_ballot_52 : decode cX9_ballot 52 = .ok (.iadd, 1) := by decide +kernel
theorem dX9_ballot_53 : decode cX9_ballot 53 = .ok (.iload 4, 2) := by decide +kernel
theorem dX9_ballot_55 : decode cX9_ballot 55 = .ok (.invokestatic 288, 3) := by decide +kernel
theorem dX9_ballot_58 : decode cX9_ballot 58 = .ok (.invokevirtual 291, 3) := by decide +kernel
theorem dX9_ballot_61 : decode cX9_ballot 61 = .ok (.ireturn, 1) := by decide +kernel
theorem dX9_placeOnBallot_0 : decode cX9_placeOnBallot 0 = .ok (.aload_n 0, 1) := by decide +kernel
theorem dX9_placeOnBallot_1 : decode cX9_placeOnBallot 1 = .ok (.iload_n 1, 1) := by decide +kernel
theorem dX9_placeOnBallot_2 : decode cX9_placeOnBallot 2 = .ok (.invokevirtual 132, 3) := by decide +kernel
theorem dX9_placeOnBallot_5 : decode cX9_placeOnBallot 5 = .ok (.aload_n 0, 1) := by decide +kernel
theorem dX9_placeOnBallot_6 : decode cX9_placeOnBallot 6 = .ok (.iload_n 2, 1) := by decide +kernel
theorem dX9_placeOnBallot_7 : decode cX9_placeOnBallot 7 = .ok (.invokevirtual 283, 3) := by decide +kernel
theorem dX9_placeOnBallot_10 : decode cX9_placeOnBallot 10 = .ok (.aload_n 0, 1) := by decide +kernel
theorem dX9_placeOnBallot_11 : decode cX9_placeOnBallot 11 = .ok (.invokevirtual 280, 3) := by decide +kernel
theorem dX9_placeOnBallot_14 : decode cX9_placeOnBallot 14 = .ok (.aload_n 0, 1) := by decide +kernel
theorem dX9_placeOnBallot_15 : decode cX9_placeOnBallot 15 = .ok (.iload_n 1, 1) := by decide +kernel
theorem dX9_placeOnBallot_16 : decode cX9_placeOnBallot 16 = .ok (.invokevirtual 294, 3) := by decide +kernel
theorem dX9_placeOnBallot_19 : decode cX9_placeOnBallot 19 = .ok (.aload_n 0, 1) := by decide +kernel
theorem dX9_placeOnBallot_20 : decode cX9_placeOnBallot 20 = .ok (.getfield 10, 3) := by decide +kernel
theorem dX9_placeOnBallot_23 : decode cX9_placeOnBallot 23 = .ok (.iload_n 1, 1) := by decide +kernel
theorem dX9_placeOnBallot_24 : decode cX9_placeOnBallot 24 = .ok (.invokevirtual 297, 3) := by decide +kernel
theorem dX9_placeOnBallot_27 : decode cX9_placeOnBallot 27 = .ok (.iload_n 2, 1) := by decide +kernel
theorem dX9_placeOnBallot_28 : decode cX9_placeOnBallot 28 = .ok (.isub, 1) := by decide +kernel
theorem dX9_placeOnBallot_29 : decode cX9_placeOnBallot 29 = .ok (.aload_n 0, 1) := by decide +kernel
theorem dX9_placeOnBallot_30 : decode cX9_placeOnBallot 30 = .ok (.getfield 10, 3) := by decide +kernel
theorem dX9_placeOnBallot_33 : decode cX9_placeOnBallot 33 = .ok (.aload_n 0, 1) := by decide +kernel
theorem dX9_placeOnBallot_34 : decode cX9_placeOnBallot 34 = .ok (.getfield 10, 3) := by decide +kernel
theorem dX9_placeOnBallot_37 : decode cX9_placeOnBallot 37 = .ok (.getfield 145, 3) := by decide +kernel
theorem dX9_placeOnBallot_40 : decode cX9_placeOnBallot 40 = .ok (.iload_n 1, 1) := by decide +kernel
theorem dX9_placeOnBallot_41 : decode cX9_placeOnBallot 41 = .ok (.aaload, 1) := by decide +kernel
theorem dX9_placeOnBallot_42 : decode cX9_placeOnBallot 42 = .ok (.getfield 300, 3) := by decide +kernel
theorem dX9_placeOnBallot_45 : decode cX9_placeOnBallot 45 = .ok (.invokevirtual 260, 3) := by decide +kernel
theorem dX9_placeOnBallot_48 : decode cX9_placeOnBallot 48 = .ok (.invokestatic 288, 3) := by decide +kernel
theorem dX9_placeOnBallot_51 : decode cX9_placeOnBallot 51 = .ok (.ireturn, 1) := by decide +kernel
theorem dX9_addVotes_0 : decode cX9_addVotes 0 = .ok (.aload_n 0, 1) := by decide +kernel
theorem dX9_addVotes_1 : decode cX9_addVotes 1 = .ok (.iload_n 1, 1) := by decide +kernel
theorem dX9_addVotes_2 : decode cX9_addVotes 2 = .ok (.invokevirtual 132, 3) := by decide +kernel
theorem dX9_addVotes_5 : decode cX9_addVotes 5 = .ok (.iload_n 2, 1) := by decide +kernel
theorem dX9_addVotes_6 : decode cX9_addVotes 6 = .ok (.iconst 1, 1) := by decide +kernel
theorem dX9_addVotes_7 : decode cX9_addVotes 7 = .ok (.if_icmp .lt 10, 3) := by decide +kernel
theorem dX9_addVotes_10 : decode cX9_addVotes 10 = .ok (.iload_n 2, 1) := by decide +kernel
theorem dX9_addVotes_11 : decode cX9_addVotes 11 = .ok (.sipush 10000, 3) := by decide +kernel
theorem dX9_addVotes_14 : decode cX9_addVotes 14 = .ok (.if_icmp .le 14, 3) := by decide +kernel
theorem dX9_addVotes_17 : decode cX9_addVotes 17 = .ok (.new 26, 3) := by decide +kernel
theorem dX9_addVotes_20 : decode cX9_addVotes 20 = .ok (.dup, 1) := by decide +kernel
theorem dX9_addVotes_21 : decode cX9_addVotes 21 = .ok (.ldc_w 301, 3) := by decide +kernel
theorem dX9_addVotes_24 : decode cX9_addVotes 24 = .ok (.invokespecial 30, 3) := by decide +kernel
theorem dX9_addVotes_27 : decode cX9_addVotes 27 = .ok (.athrow, 1) := by decide +kernel
theorem dX9_addVotes_28 : decode cX9_addVotes 28 = .ok (.aload_n 0, 1) := by decide +kernel
theorem dX9_addVotes_29 : decode cX9_addVotes 29 = .ok (.iload_n 1, 1) := by decide +kernel
theorem dX9_addVotes_30 : decode cX9_addVotes 30 = .ok (.invokevirtual 294, 3) := by decide +kernel
theorem dX9_addVotes_33 : decode cX9_addVotes 33 = .ok (.aload_n 0, 1) := by decide +kernel
theorem dX9_addVotes_34 : decode cX9_addVotes 34 = .ok (.aload_n 0, 1) := by decide +kernel
theorem dX9_addVotes_35 : decode cX9_addVotes 35 = .ok (.getfield 10, 3) := by decide +kernel
theorem dX9_addVotes_38 : decode cX9_addVotes 38 = .ok (.getfield 145, 3) := by decide +kernel
theorem dX9_addVotes_41 : decode cX9_addVotes 41 = .ok (.iload_n 1, 1) := by decide +kernel
theorem dX9_addVotes_42 : decode cX9_addVotes 42 = .ok (.aaload, 1) := by decide +kernel
theorem dX9_addVotes_43 : decode cX9_addVotes 43 = .ok (.getfield 300, 3) := by decide +kernel
theorem dX9_addVotes_46 : decode cX9_addVotes 46 = .ok (.invokevirtual 303, 3) := by decide +kernel
theorem dX9_addVotes_49 : decode cX9_addVotes 49 = .ok (.aload_n 0, 1) := by decide +kernel
theorem dX9_addVotes_50 : decode cX9_addVotes 50 = .ok (.bipush 14, 2) := by decide +kernel
theorem dX9_addVotes_52 : decode cX9_addVotes 52 = .ok (.iload_n 1, 1) := by decide +kernel
theorem dX9_addVotes_53 : decode cX9_addVotes 53 = .ok (.iload_n 2, 1) := by decide +kernel
theorem dX9_addVotes_54 : decode cX9_addVotes 54 = .ok (.iconst 0, 1) := by decide +kernel
theorem dX9_addVotes_55 : decode cX9_addVotes 55 = .ok (.invokevirtual 54, 3) := by decide +kernel
theorem dX9_addVotes_58 : decode cX9_addVotes 58 = .ok (.aload_n 0, 1) := by decide +kernel
theorem dX9_addVotes_59 : decode cX9_addVotes 59 = .ok (.getfield 10, 3) := by decide +kernel
theorem dX9_addVotes_62 : decode cX9_addVotes 62 = .ok (.getfield 145, 3) := by decide +kernel
theorem dX9_addVotes_65 : decode cX9_addVotes 65 = .ok (.iload_n 1, 1) := by decide +kernel
theorem dX9_addVotes_66 : decode cX9_addVotes 66 = .ok (.aaload, 1) := by decide +kernel
theorem dX9_addVotes_67 : decode cX9_addVotes 67 = .ok (.getfield 306, 3) := by decide +kernel
theorem dX9_addVotes_70 : decode cX9_addVotes 70 = .ok (.ireturn, 1) := by decide +kernel
theorem dX9_finish_0 : decode cX9_finish 0 = .ok (.aload_n 0, 1) := by decide +kernel
theorem dX9_finish_1 : decode cX9_finish 1 = .ok (.iload_n 1, 1) := by decide +kernel
theorem dX9_finish_2 : decode cX9_finish 2 = .ok (.invokevirtual 79, 3) := by decide +kernel
theorem dX9_finish_5 : decode cX9_finish 5 = .ok (.aload_n 0, 1) := by decide +kernel
theorem dX9_finish_6 : decode cX9_finish 6 = .ok (.iload_n 1, 1) := by decide +kernel
theorem dX9_finish_7 : decode cX9_finish 7 = .ok (.invokevirtual 303, 3) := by decide +kernel
theorem dX9_finish_10 : decode cX9_finish 10 = .ok (.aload_n 0, 1) := by decide +kernel
theorem dX9_finish_11 : decode cX9_finish 11 = .ok (.bipush 15, 2) := by decide +kernel
theorem dX9_finish_13 : decode cX9_finish 13 = .ok (.iload_n 1, 1) := by decide +kernel
theorem dX9_finish_14 : decode cX9_finish 14 = .ok (.iconst 0, 1) := by decide +kernel
theorem dX9_finish_15 : decode cX9_finish 15 = .ok (.iconst 0, 1) := by decide +kernel
theorem dX9_finish_16 : decode cX9_finish 16 = .ok (.invokevirtual 54, 3) := by decide +kernel
theorem dX9_finish_19 : decode cX9_finish 19 = .ok (.aload_n 0, 1) := by decide +kernel
theorem dX9_finish_20 : decode cX9_finish 20 = .ok (.getfield 10, 3) := by decide +kernel
theorem dX9_finish_23 : decode cX9_finish 23 = .ok (.iload_n 1, 1) := by decide +kernel
theorem dX9_finish_24 : decode cX9_finish 24 = .ok (.invokevirtual 309, 3) := by decide +kernel
theorem dX9_finish_27 : decode cX9_finish 27 = .ok (.ireturn, 1) := by decide +kernel
theorem dX9_votes_0 : decode cX9_votes 0 = .ok (.aload_n 0, 1) := by decide +kernel
theorem dX9_votes_1 : decode cX9_votes 1 = .ok (.iload_n 1, 1) := by decide +kernel
theorem dX9_votes_2 : decode cX9_votes 2 = .ok (.invokevirtual 132, 3) := by decide +kernel
theorem dX9_votes_5 : decode cX9_votes 5 = .ok (.aload_n 0, 1) := by decide +kernel
theorem dX9_votes_6 : decode cX9_votes 6 = .ok (.getfield 10, 3) := by decide +kernel
theorem dX9_votes_9 : decode cX9_votes 9 = .ok (.getfield 145, 3) := by decide +kernel
theorem dX9_votes_12 : decode cX9_votes 12 = .ok (.iload_n 1, 1) := by decide +kernel
theorem dX9_votes_13 : decode cX9_votes 13 = .ok (.aaload, 1) := by decide +kernel
theorem dX9_votes_14 : decode cX9_votes 14 = .ok (.getfield 306, 3) := by decide +kernel
theorem dX9_votes_17 : decode cX9_votes 17 = .ok (.ireturn, 1) := by decide +kernel
theorem dX9_share_0 : decode cX9_share 0 = .ok (.aload_n 0, 1) := by decide +kernel
theorem dX9_share_1 : decode cX9_share 1 = .ok (.iload_n 1, 1) := by decide +kernel
theorem dX9_share_2 : decode cX9_share 2 = .ok (.invokevirtual 132, 3) := by decide +kernel
theorem dX9_share_5 : decode cX9_share 5 = .ok (.aload_n 0, 1) := by decide +kernel
theorem dX9_share_6 : decode cX9_share 6 = .ok (.getfield 10, 3) := by decide +kernel
theorem dX9_share_9 : decode cX9_share 9 = .ok (.aload_n 0, 1) := by decide +kernel
theorem dX9_share_10 : decode cX9_share 10 = .ok (.getfield 10, 3) := by decide +kernel
theorem dX9_share_13 : decode cX9_share 13 = .ok (.getfield 145, 3) := by decide +kernel
theorem dX9_share_16 : decode cX9_share 16 = .ok (.iload_n 1, 1) := by decide +kernel
theorem dX9_share_17 : decode cX9_share 17 = .ok (.aaload, 1) := by decide +kernel
theorem dX9_share_18 : decode cX9_share 18 = .ok (.getfield 300, 3) := by decide +kernel
theorem dX9_share_21 : decode cX9_share 21 = .ok (.invokevirtual 312, 3) := by decide +kernel
theorem dX9_share_24 : decode cX9_share 24 = .ok (.istore_n 2, 1) := by decide +kernel
theorem dX9_share_25 : decode cX9_share 25 = .ok (.iload_n 2, 1) := by decide +kernel
theorem dX9_share_26 : decode cX9_share 26 = .ok (.ifCond .ne 14, 3) := by decide +kernel
theorem dX9_share_29 : decode cX9_share 29 = .ok (.new 315, 3) := by decide +kernel
theorem dX9_share_32 : decode cX9_share 32 = .ok (.dup, 1) := by decide +kernel
theorem dX9_share_33 : decode cX9_share 33 = .ok (.ldc_w 317, 3) := by decide +kernel
theorem dX9_share_36 : decode cX9_share 36 = .ok (.invokespecial 319, 3) := by decide +kernel
theorem dX9_share_39 : decode cX9_share 39 = .ok (.athrow, 1) := by decide +kernel
theorem dX9_share_40 : decode cX9_share 40 = .ok (.aload_n 0, 1) := by decide +kernel
theorem dX9_share_41 : decode cX9_share 41 = .ok (.getfield 10, 3) := by decide +kernel
theorem dX9_share_44 : decode cX9_share 44 = .ok (.getfield 145, 3) := by decide +kernel
theorem dX9_share_47 : decode cX9_share 47 = .ok (.iload_n 1, 1) := by decide +kernel
theorem dX9_share_48 : decode cX9_share 48 = .ok (.aaload, 1) := by decide +kernel
theorem dX9_share_49 : decode cX9_share 49 = .ok (.getfield 306, 3) := by decide +kernel
theorem dX9_share_52 : decode cX9_share 52 = .ok (.i2d, 1) := by decide +kernel
theorem dX9_share_53 : decode cX9_share 53 = .ok (.iload_n 2, 1) := by decide +kernel
theorem dX9_share_54 : decode cX9_share 54 = .ok (.i2d, 1) := by decide +kernel
theorem dX9_share_55 : decode cX9_share 55 = .ok (.ddiv, 1) := by decide +kernel
theorem dX9_share_56 : decode cX9_share 56 = .ok (.dreturn, 1) := by decide +kernel
theorem dX9_winner_0 : decode cX9_winner 0 = .ok (.aload_n 0, 1) := by decide +kernel
theorem dX9_winner_1 : decode cX9_winner 1 = .ok (.iload_n 1, 1) := by decide +kernel
theorem dX9_winner_2 : decode cX9_winner 2 = .ok (.invokevirtual 79, 3) := by decide +kernel
theorem dX9_winner_5 : decode cX9_winner 5 = .ok (.aload_n 0, 1) := by decide +kernel
theorem dX9_winner_6 : decode cX9_winner 6 = .ok (.getfield 10, 3) := by decide +kernel
theorem dX9_winner_9 : decode cX9_winner 9 = .ok (.getfield 68, 3) := by decide +kernel
theorem dX9_winner_12 : decode cX9_winner 12 = .ok (.getfield 320, 3) := by decide +kernel
theorem dX9_winner_15 : decode cX9_winner 15 = .ok (.iload_n 1, 1) := by decide +kernel
theorem dX9_winner_16 : decode cX9_winner 16 = .ok (.aaload, 1) := by decide +kernel
theorem dX9_winner_17 : decode cX9_winner 17 = .ok (.getfield 324, 3) := by decide +kernel
theorem dX9_winner_20 : decode cX9_winner 20 = .ok (.ifCond .ne 14, 3) := by decide +kernel
theorem dX9_winner_23 : decode cX9_winner 23 = .ok (.new 46, 3) := by decide +kernel
theorem dX9_winner_26 : decode cX9_winner 26 = .ok (.dup, 1) := by decide +kernel
theorem dX9_winner_27 : decode cX9_winner 27 = .ok (.ldc_w 329, 3) := by decide +kernel
theorem dX9_winner_30 : decode cX9_winner 30 = .ok (.invokespecial 50, 3) := by decide +kernel
theorem dX9_winner_33 : decode cX9_winner 33 = .ok (.athrow, 1) := by decide +kernel
theorem dX9_winner_34 : decode cX9_winner 34 = .ok (.aload_n 0, 1) := by decide +kernel
theorem dX9_winner_35 : decode cX9_winner 35 = .ok (.getfield 10, 3) := by decide +kernel
theorem dX9_winner_38 : decode cX9_winner 38 = .ok (.iload_n 1, 1) := by decide +kernel
theorem dX9_winner_39 : decode cX9_winner 39 = .ok (.invokevirtual 331, 3) := by decide +kernel
theorem dX9_winner_42 : decode cX9_winner 42 = .ok (.istore_n 2, 1) := by decide +kernel
theorem dX9_winner_43 : decode cX9_winner 43 = .ok (.iload_n 2, 1) := by decide +kernel
theorem dX9_winner_44 : decode cX9_winner 44 = .ok (.iconst (-1), 1) := by decide +kernel
theorem dX9_winner_45 : decode cX9_winner 45 = .ok (.if_icmp .ne 14, 3) := by decide +kernel
theorem dX9_winner_48 : decode cX9_winner 48 = .ok (.new 218, 3) := by decide +kernel
theorem dX9_winner_51 : decode cX9_winner 51 = .ok (.dup, 1) := by decide +kernel
theorem dX9_winner_52 : decode cX9_winner 52 = .ok (.ldc_w 334, 3) := by decide +kernel
theorem dX9_winner_55 : decode cX9_winner 55 = .ok (.invokespecial 222, 3) := by decide +kernel
theorem dX9_winner_58 : decode cX9_winner 58 = .ok (.athrow, 1) := by decide +kernel
theorem dX9_winner_59 : decode cX9_winner 59 = .ok (.iload_n 2, 1) := by decide +kernel
theorem dX9_winner_60 : decode cX9_winner 60 = .ok (.ireturn, 1) := by decide +kernel
theorem dX9_deposit_0 : decode cX9_deposit 0 = .ok (.aload_n 0, 1) := by decide +kernel
theorem dX9_deposit_1 : decode cX9_deposit 1 = .ok (.iload_n 1, 1) := by decide +kernel
theorem dX9_deposit_2 : decode cX9_deposit 2 = .ok (.invokevirtual 132, 3) := by decide +kernel
theorem dX9_deposit_5 : decode cX9_deposit 5 = .ok (.aload_n 0, 1) := by decide +kernel
theorem dX9_deposit_6 : decode cX9_deposit 6 = .ok (.getfield 10, 3) := by decide +kernel
theorem dX9_deposit_9 : decode cX9_deposit 9 = .ok (.iload_n 1, 1) := by decide +kernel
theorem dX9_deposit_10 : decode cX9_deposit 10 = .ok (.invokevirtual 336, 3) := by decide +kernel
theorem dX9_deposit_13 : decode cX9_deposit 13 = .ok (.ireturn, 1) := by decide +kernel
theorem dX9_paid_0 : decode cX9_paid 0 = .ok (.aload_n 0, 1) := by decide +kernel
theorem dX9_paid_1 : decode cX9_paid 1 = .ok (.iload_n 1, 1) := by decide +kernel
theorem dX9_paid_2 : decode cX9_paid 2 = .ok (.invokevirtual 132, 3) := by decide +kernel
theorem dX9_paid_5 : decode cX9_paid 5 = .ok (.aload_n 0, 1) := by decide +kernel
theorem dX9_paid_6 : decode cX9_paid 6 = .ok (.getfield 10, 3) := by decide +kernel
theorem dX9_paid_9 : decode cX9_paid 9 = .ok (.getfield 145, 3) := by decide +kernel
theorem dX9_paid_12 : decode cX9_paid 12 = .ok (.iload_n 1, 1) := by decide +kernel
theorem dX9_paid_13 : decode cX9_paid 13 = .ok (.aaload, 1) := by decide +kernel
theorem dX9_paid_14 : decode cX9_paid 14 = .ok (.getfield 149, 3) := by decide +kernel
theorem dX9_paid_17 : decode cX9_paid 17 = .ok (.ireturn, 1) := by decide +kernel
theorem dX9_sumHeld_0 : decode cX9_sumHeld 0 = .ok (.aload_n 0, 1) := by decide +kernel
theorem dX9_sumHeld_1 : decode cX9_sumHeld 1 = .ok (.getfield 10, 3) := by decide +kernel
theorem dX9_sumHeld_4 : decode cX9_sumHeld 4 = .ok (.iconst 0, 1) := by decide +kernel
theorem dX9_sumHeld_5 : decode cX9_sumHeld 5 = .ok (.invokevirtual 339, 3) := by decide +kernel
theorem dX9_sumHeld_8 : decode cX9_sumHeld 8 = .ok (.ireturn, 1) := by decide +kernel
theorem dX9_sumLost_0 : decode cX9_sumLost 0 = .ok (.aload_n 0, 1) := by decide +kernel
theorem dX9_sumLost_1 : decode cX9_sumLost 1 = .ok (.getfield 10, 3) := by decide +kernel
theorem dX9_sumLost_4 : decode cX9_sumLost 4 = .ok (.iconst 2, 1) := by decide +kernel
theorem dX9_sumLost_5 : decode cX9_sumLost 5 = .ok (.invokevirtual 339, 3) := by decide +kernel
theorem dX9_sumLost_8 : decode cX9_sumLost 8 = .ok (.ireturn, 1) := by decide +kernel
theorem dX9_lostShare_0 : decode cX9_lostShare 0 = .ok (.aload_n 0, 1) := by decide +kernel
theorem dX9_lostShare_1 : decode cX9_lostShare 1 = .ok (.getfield 10, 3) := by decide +kernel
theorem dX9_lostShare_4 : decode cX9_lostShare 4 = .ok (.invokevirtual 342, 3) := by decide +kernel
theorem dX9_lostShare_7 : decode cX9_lostShare 7 = .ok (.istore_n 1, 1) := by decide +kernel
theorem dX9_lostShare_8 : decode cX9_lostShare 8 = .ok (.iload_n 1, 1) := by decide +kernel
theorem dX9_lostShare_9 : decode cX9_lostShare 9 = .ok (.ifCond .ne 14, 3) := by decide +kernel
theorem dX9_lostShare_12 : decode cX9_lostShare 12 = .ok (.new 315, 3) := by decide +kernel
theorem dX9_lostShare_15 : decode cX9_lostShare 15 = .ok (.dup, 1) := by decide +kernel
theorem dX9_lostShare_16 : decode cX9_lostShare 16 = .ok (.ldc_w 345, 3) := by decide +kernel
theorem dX9_lostShare_19 : decode cX9_lostShare 19 = .ok (.invokespecial 319, 3) := by decide +kernel
theorem dX9_lostShare_22 : decode cX9_lostShare 22 = .ok (.athrow, 1) := by decide +kernel
theorem dX9_lostShare_23 : decode cX9_lostShare 23 = .ok (.aload_n 0, 1) := by decide +kernel
theorem dX9_lostShare_24 : decode cX9_lostShare 24 = .ok (.getfield 10, 3) := by decide +kernel
theorem dX9_lostShare_27 : decode cX9_lostShare 27 = .ok (.iconst 2, 1) := by decide +kernel
theorem dX9_lostShare_28 : decode cX9_lostShare 28 = .ok (.invokevirtual 339, 3) := by decide +kernel
theorem dX9_lostShare_31 : decode cX9_lostShare 31 = .ok (.i2f, 1) := by decide +kernel
theorem dX9_lostShare_32 : decode cX9_lostShare 32 = .ok (.iload_n 1, 1) := by decide +kernel
theorem dX9_lostShare_33 : decode cX9_lostShare 33 = .ok (.i2f, 1) := by decide +kernel
theorem dX9_lostShare_34 : decode cX9_lostShare 34 = .ok (.fdiv, 1) := by decide +kernel
theorem dX9_lostShare_35 : decode cX9_lostShare 35 = .ok (.freturn, 1) := by decide +kernel
theorem dX9_needArea_0 : decode cX9_needArea 0 = .ok (.iload_n 1, 1) := by decide +kernel
theorem dX9_needArea_1 : decode cX9_needArea 1 = .ok (.ifCond .lt 17, 3) := by decide +kernel
theorem dX9_needArea_4 : decode cX9_needArea 4 = .ok (.iload_n 1, 1) := by decide +kernel
theorem dX9_needArea_5 : decode cX9_needArea 5 = .ok (.aload_n 0, 1) := by decide +kernel
theorem dX9_needArea_6 : decode cX9_needArea 6 = .ok (.getfield 10, 3) := by decide +kernel
theorem dX9_needArea_9 : decode cX9_needArea 9 = .ok (.getfield 68, 3) := by decide +kernel
theorem dX9_needArea_12 : decode cX9_needArea 12 = .ok (.getfield 72, 3) := by decide +kernel
theorem dX9_needArea_15 : decode cX9_needArea 15 = .ok (.if_icmp .lt 14, 3) := by decide +kernel
theorem dX9_needArea_18 : decode cX9_needArea 18 = .ok (.new 185, 3) := by decide +kernel
theorem dX9_needArea_21 : decode cX9_needArea 21 = .ok (.dup, 1) := by decide +kernel
theorem dX9_needArea_22 : decode cX9_needArea 22 = .ok (.ldc_w 347, 3) := by decide +kernel
theorem dX9_needArea_25 : decode cX9_needArea 25 = .ok (.invokespecial 189, 3) := by decide +kernel
theorem dX9_needArea_28 : decode cX9_needArea 28 = .ok (.athrow, 1) := by decide +kernel
theorem dX9_needArea_29 : decode cX9_needArea 29 = .ok (.return_, 1) := by decide +kernel
theorem dX9_needVoter_0 : decode cX9_needVoter 0 = .ok (.iload_n 1, 1) := by decide +kernel
theorem dX9_needVoter_1 : decode cX9_needVoter 1 = .ok (.ifCond .lt 17, 3) := by decide +kernel
theorem dX9_needVoter_4 : decode cX9_needVoter 4 = .ok (.iload_n 1, 1) := by decide +kernel
theorem dX9_needVoter_5 : decode cX9_needVoter 5 = .ok (.aload_n 0, 1) := by decide +kernel
theorem dX9_needVoter_6 : decode cX9_needVoter 6 = .ok (.getfield 10, 3) := by decide +kernel
theorem dX9_needVoter_9 : decode cX9_needVoter 9 = .ok (.getfield 68, 3) := by decide +kernel
theorem dX9_needVoter_12 : decode cX9_needVoter 12 = .ok (.getfield 83, 3) := by decide +kernel
theorem dX9_needVoter_15 : decode cX9_needVoter 15 = .ok (.if_icmp .lt 14, 3) := by decide +kernel
theorem dX9_needVoter_18 : decode cX9_needVoter 18 = .ok (.new 185, 3) := by decide +kernel
theorem dX9_needVoter_21 : decode cX9_needVoter 21 = .ok (.dup, 1) := by decide +kernel
theorem dX9_needVoter_22 : decode cX9_needVoter 22 = .ok (.ldc_w 349, 3) := by decide +kernel
theorem dX9_needVoter_25 : decode cX9_needVoter 25 = .ok (.invokespecial 189, 3) := by decide +kernel
theorem dX9_needVoter_28 : decode cX9_needVoter 28 = .ok (.athrow, 1) := by decide +kernel
theorem dX9_needVoter_29 : decode cX9_needVoter 29 = .ok (.return_, 1) := by decide +kernel
theorem dX9_needPaper_0 : decode cX9_needPaper 0 = .ok (.iload_n 1, 1) := by decide +kernel
theorem dX9_needPaper_1 : decode cX9_needPaper 1 = .ok (.ifCond .lt 14, 3) := by decide +kernel
theorem dX9_needPaper_4 : decode cX9_needPaper 4 = .ok (.iload_n 1, 1) := by decide +kernel
theorem dX9_needPaper_5 : decode cX9_needPaper 5 = .ok (.aload_n 0, 1) := by decide +kernel
theorem dX9_needPaper_6 : decode cX9_needPaper 6 = .ok (.getfield 10, 3) := by decide +kernel
theorem dX9_needPaper_9 : decode cX9_needPaper 9 = .ok (.getfield 43, 3) := by decide +kernel
theorem dX9_needPaper_12 : decode cX9_needPaper 12 = .ok (.if_icmp .lt 14, 3) := by decide +kernel
theorem dX9_needPaper_15 : decode cX9_needPaper 15 = .ok (.new 185, 3) := by decide +kernel
theorem dX9_needPaper_18 : decode cX9_needPaper 18 = .ok (.dup, 1) := by decide +kernel
theorem dX9_needPaper_19 : decode cX9_needPaper 19 = .ok (.ldc_w 351, 3) := by decide +kernel
theorem dX9_needPaper_22 : decode cX9_needPaper 22 = .ok (.invokespecial 189, 3) := by decide +kernel
theorem dX9_needPaper_25 : decode cX9_needPaper 25 = .ok (.athrow, 1) := by decide +kernel
theorem dX9_needPaper_26 : decode cX9_needPaper 26 = .ok (.return_, 1) := by decide +kernel
theorem dX9_needName_0 : decode cX9_needName 0 = .ok (.iload_n 1, 1) := by decide +kernel
theorem dX9_needName_1 : decode cX9_needName 1 = .ok (.invokestatic 353, 3) := by decide +kernel
theorem dX9_needName_4 : decode cX9_needName 4 = .ok (.ifCond .eq 28, 3) := by decide +kernel
theorem dX9_needName_7 : decode cX9_needName 7 = .ok (.iload_n 1, 1) := by decide +kernel
theorem dX9_needName_8 : decode cX9_needName 8 = .ok (.iload_n 2, 1) := by decide +kernel
theorem dX9_needName_9 : decode cX9_needName 9 = .ok (.invokestatic 357, 3) := by decide +kernel
theorem dX9_needName_12 : decode cX9_needName 12 = .ok (.ifCond .eq 20, 3) := by decide +kernel
theorem dX9_needName_15 : decode cX9_needName 15 = .ok (.iload_n 2, 1) := by decide +kernel
theorem dX9_needName_16 : decode cX9_needName 16 = .ok (.iload_n 3, 1) := by decide +kernel
theorem dX9_needName_17 : decode cX9_needName 17 = .ok (.invokestatic 357, 3) := by decide +kernel
theorem dX9_needName_20 : decode cX9_needName 20 = .ok (.ifCond .eq 12, 3) := by decide +kernel
theorem dX9_needName_23 : decode cX9_needName 23 = .ok (.iload_n 3, 1) := by decide +kernel
theorem dX9_needName_24 : decode cX9_needName 24 = .ok (.iload 4, 2) := by decide +kernel
theorem dX9_needName_26 : decode cX9_needName 26 = .ok (.invokestatic 357, 3) := by decide +kernel
theorem dX9_needName_29 : decode cX9_needName 29 = .ok (.ifCond .ne 14, 3) := by decide +kernel
theorem dX9_needName_32 : decode cX9_needName 32 = .ok (.new 26, 3) := by decide +kernel
theorem dX9_needName_35 : decode cX9_needName 35 = .ok (.dup, 1) := by decide +kernel
theorem dX9_needName_36 : decode cX9_needName 36 = .ok (.ldc_w 361, 3) := by decide +kernel
theorem dX9_needName_39 : decode cX9_needName 39 = .ok (.invokespecial 30, 3) := by decide +kernel
theorem dX9_needName_42 : decode cX9_needName 42 = .ok (.athrow, 1) := by decide +kernel
theorem dX9_needName_43 : decode cX9_needName 43 = .ok (.return_, 1) := by decide +kernel
theorem dX9_needPrecinct_0 : decode cX9_needPrecinct 0 = .ok (.iload_n 1, 1) := by decide +kernel
theorem dX9_needPrecinct_1 : decode cX9_needPrecinct 1 = .ok (.ifCond .lt 10, 3) := by decide +kernel
theorem dX9_needPrecinct_4 : decode cX9_needPrecinct 4 = .ok (.iload_n 1, 1) := by decide +kernel
theorem dX9_needPrecinct_5 : decode cX9_needPrecinct 5 = .ok (.sipush 999, 3) := by decide +kernel
theorem dX9_needPrecinct_8 : decode cX9_needPrecinct 8 = .ok (.if_icmp .le 14, 3) := by decide +kernel
theorem dX9_needPrecinct_11 : decode cX9_needPrecinct 11 = .ok (.new 26, 3) := by decide +kernel
theorem dX9_needPrecinct_14 : decode cX9_needPrecinct 14 = .ok (.dup, 1) := by decide +kernel
theorem dX9_needPrecinct_15 : decode cX9_needPrecinct 15 = .ok (.ldc_w 363, 3) := by decide +kernel
theorem dX9_needPrecinct_18 : decode cX9_needPrecinct 18 = .ok (.invokespecial 30, 3) := by decide +kernel
theorem dX9_needPrecinct_21 : decode cX9_needPrecinct 21 = .ok (.athrow, 1) := by decide +kernel
theorem dX9_needPrecinct_22 : decode cX9_needPrecinct 22 = .ok (.return_, 1) := by decide +kernel
theorem dX9_needOpen_0 : decode cX9_needOpen 0 = .ok (.aload_n 0, 1) := by decide +kernel
theorem dX9_needOpen_1 : decode cX9_needOpen 1 = .ok (.getfield 10, 3) := by decide +kernel
theorem dX9_needOpen_4 : decode cX9_needOpen 4 = .ok (.getfield 33, 3) := by decide +kernel
theorem dX9_needOpen_7 : decode cX9_needOpen 7 = .ok (.invokevirtual 62, 3) := by decide +kernel
theorem dX9_needOpen_10 : decode cX9_needOpen 10 = .ok (.ifCond .ne 14, 3) := by decide +kernel
theorem dX9_needOpen_13 : decode cX9_needOpen 13 = .ok (.new 46, 3) := by decide +kernel
theorem dX9_needOpen_16 : decode cX9_needOpen 16 = .ok (.dup, 1) := by decide +kernel
theorem dX9_needOpen_17 : decode cX9_needOpen 17 = .ok (.ldc_w 365, 3) := by decide +kernel
theorem dX9_needOpen_20 : decode cX9_needOpen 20 = .ok (.invokespecial 50, 3) := by decide +kernel
theorem dX9_needOpen_23 : decode cX9_needOpen 23 = .ok (.athrow, 1) := by decide +kernel
theorem dX9_needOpen_24 : decode cX9_needOpen 24 = .ok (.return_, 1) := by decide +kernel
theorem dX9_needNotWithdrawn_0 : decode cX9_needNotWithdrawn 0 = .ok (.aload_n 0, 1) := by decide +kernel
theorem dX9_needNotWithdrawn_1 : decode cX9_needNotWithdrawn 1 = .ok (.getfield 10, 3) := by decide +kernel
theorem dX9_needNotWithdrawn_4 : decode cX9_needNotWithdrawn 4 = .ok (.iload_n 1, 1) := by decide +kernel
theorem dX9_needNotWithdrawn_5 : decode cX9_needNotWithdrawn 5 = .ok (.invokevirtual 367, 3) := by decide +kernel
theorem dX9_needNotWithdrawn_8 : decode cX9_needNotWithdrawn 8 = .ok (.ifCond .eq 14, 3) := by decide +kernel
theorem dX9_needNotWithdrawn_11 : decode cX9_needNotWithdrawn 11 = .ok (.new 46, 3) := by decide +kernel
theorem dX9_needNotWithdrawn_14 : decode cX9_needNotWithdrawn 14 = .ok (.dup, 1) := by decide +kernel
theorem dX9_needNotWithdrawn_15 : decode cX9_needNotWithdrawn 15 = .ok (.ldc_w 370, 3) := by decide +kernel
theorem dX9_needNotWithdrawn_18 : decode cX9_needNotWithdrawn 18 = .ok (.invokespecial 50, 3) := by decide +kernel
theorem dX9_needNotWithdrawn_21 : decode cX9_needNotWithdrawn 21 = .ok (.athrow, 1) := by decide +kernel
theorem dX9_needNotWithdrawn_22 : decode cX9_needNotWithdrawn 22 = .ok (.return_, 1) := by decide +kernel
theorem dX9_needNotRejected_0 : decode cX9_needNotRejected 0 = .ok (.aload_n 0, 1) := by decide +kernel
theorem dX9_needNotRejected_1 : decode cX9_needNotRejected 1 = .ok (.getfield 10, 3) := by decide +kernel
theorem dX9_needNotRejected_4 : decode cX9_needNotRejected 4 = .ok (.iload_n 1, 1) := by decide +kernel
theorem dX9_needNotRejected_5 : decode cX9_needNotRejected 5 = .ok (.invokevirtual 372, 3) := by decide +kernel
theorem dX9_needNotRejected_8 : decode cX9_needNotRejected 8 = .ok (.ifCond .eq 14, 3) := by decide +kernel
theorem dX9_needNotRejected_11 : decode cX9_needNotRejected 11 = .ok (.new 46, 3) := by decide +kernel
theorem dX9_needNotRejected_14 : decode cX9_needNotRejected 14 = .ok (.dup, 1) := by decide +kernel
theorem dX9_needNotRejected_15 : decode cX9_needNotRejected 15 = .ok (.ldc_w 375, 3) := by decide +kernel
theorem dX9_needNotRejected_18 : decode cX9_needNotRejected 18 = .ok (.invokespecial 50, 3) := by decide +kernel
theorem dX9_needNotRejected_21 : decode cX9_needNotRejected 21 = .ok (.athrow, 1) := by decide +kernel
theorem dX9_needNotRejected_22 : decode cX9_needNotRejected 22 = .ok (.return_, 1) := by decide +kernel
theorem dX9_needStanding_0 : decode cX9_needStanding 0 = .ok (.aload_n 0, 1) := by decide +kernel
theorem dX9_needStanding_1 : decode cX9_needStanding 1 = .ok (.getfield 10, 3) := by decide +kernel
theorem dX9_needStanding_4 : decode cX9_needStanding 4 = .ok (.iload_n 1, 1) := by decide +kernel
theorem dX9_needStanding_5 : decode cX9_needStanding 5 = .ok (.invokevirtual 234, 3) := by decide +kernel
theorem dX9_needStanding_8 : decode cX9_needStanding 8 = .ok (.ifCond .eq 14, 3) := by decide +kernel
theorem dX9_needStanding_11 : decode cX9_needStanding 11 = .ok (.new 46, 3) := by decide +kernel
theorem dX9_needStanding_14 : decode cX9_needStanding 14 = .ok (.dup, 1) := by decide +kernel
theorem dX9_needStanding_15 : decode cX9_needStanding 15 = .ok (.ldc_w 377, 3) := by decide +kernel
theorem dX9_needStanding_18 : decode cX9_needStanding 18 = .ok (.invokespecial 50, 3) := by decide +kernel
theorem dX9_needStanding_21 : decode cX9_needStanding 21 = .ok (.athrow, 1) := by decide +kernel
theorem dX9_needStanding_22 : decode cX9_needStanding 22 = .ok (.return_, 1) := by decide +kernel
theorem dX9_needLetters_0 : decode cX9_needLetters 0 = .ok (.aload_n 0, 1) := by decide +kernel
theorem dX9_needLetters_1 : decode cX9_needLetters 1 = .ok (.getfield 10, 3) := by decide +kernel
theorem dX9_needLetters_4 : decode cX9_needLetters 4 = .ok (.getfield 265, 3) := by decide +kernel
theorem dX9_needLetters_7 : decode cX9_needLetters 7 = .ok (.getfield 269, 3) := by decide +kernel
theorem dX9_needLetters_10 : decode cX9_needLetters 10 = .ok (.ifCond .ne 14, 3) := by decide +kernel
theorem dX9_needLetters_13 : decode cX9_needLetters 13 = .ok (.new 46, 3) := by decide +kernel
theorem dX9_needLetters_16 : decode cX9_needLetters 16 = .ok (.dup, 1) := by decide +kernel
theorem dX9_needLetters_17 : decode cX9_needLetters 17 = .ok (.ldc_w 379, 3) := by decide +kernel
theorem dX9_needLetters_20 : decode cX9_needLetters 20 = .ok (.invokespecial 50, 3) := by decide +kernel
theorem dX9_needLetters_23 : decode cX9_needLetters 23 = .ok (.athrow, 1) := by decide +kernel
theorem dX9_needLetters_24 : decode cX9_needLetters 24 = .ok (.return_, 1) := by decide +kernel
theorem dX9_needCounting_0 : decode cX9_needCounting 0 = .ok (.aload_n 0, 1) := by decide +kernel
theorem dX9_needCounting_1 : decode cX9_needCounting 1 = .ok (.getfield 10, 3) := by decide +kernel
theorem dX9_needCounting_4 : decode cX9_needCounting 4 = .ok (.getfield 33, 3) := by decide +kernel
theorem dX9_needCounting_7 : decode cX9_needCounting 7 = .ok (.invokevirtual 171, 3) := by decide +kernel
theorem dX9_needCounting_10 : decode cX9_needCounting 10 = .ok (.ifCond .ne 14, 3) := by decide +kernel
theorem dX9_needCounting_13 : decode cX9_needCounting 13 = .ok (.new 46, 3) := by decide +kernel
theorem dX9_needCounting_16 : decode cX9_needCounting 16 = .ok (.dup, 1) := by decide +kernel
theorem dX9_needCounting_17 : decode cX9_needCounting 17 = .ok (.ldc_w 381, 3) := by decide +kernel
theorem dX9_needCounting_20 : decode cX9_needCounting 20 = .ok (.invokespecial 50, 3) := by decide +kernel
theorem dX9_needCounting_23 : decode cX9_needCounting 23 = .ok (.athrow, 1) := by decide +kernel
theorem dX9_needCounting_24 : decode cX9_needCounting 24 = .ok (.aload_n 0, 1) := by decide +kernel
theorem dX9_needCounting_25 : decode cX9_needCounting 25 = .ok (.getfield 10, 3) := by decide +kernel
theorem dX9_needCounting_28 : decode cX9_needCounting 28 = .ok (.getfield 68, 3) := by decide +kernel
theorem dX9_needCounting_31 : decode cX9_needCounting 31 = .ok (.getfield 320, 3) := by decide +kernel
theorem dX9_needCounting_34 : decode cX9_needCounting 34 = .ok (.iload_n 1, 1) := by decide +kernel
theorem dX9_needCounting_35 : decode cX9_needCounting 35 = .ok (.aaload, 1) := by decide +kernel
theorem dX9_needCounting_36 : decode cX9_needCounting 36 = .ok (.getfield 324, 3) := by decide +kernel
theorem dX9_needCounting_39 : decode cX9_needCounting 39 = .ok (.ifCond .eq 14, 3) := by decide +kernel
theorem dX9_needCounting_42 : decode cX9_needCounting 42 = .ok (.new 46, 3) := by decide +kernel
theorem dX9_needCounting_45 : decode cX9_needCounting 45 = .ok (.dup, 1) := by decide +kernel
theorem dX9_needCounting_46 : decode cX9_needCounting 46 = .ok (.ldc_w 383, 3) := by decide +kernel
theorem dX9_needCounting_49 : decode cX9_needCounting 49 = .ok (.invokespecial 50, 3) := by decide +kernel
theorem dX9_needCounting_52 : decode cX9_needCounting 52 = .ok (.athrow, 1) := by decide +kernel
theorem dX9_needCounting_53 : decode cX9_needCounting 53 = .ok (.return_, 1) := by decide +kernel
theorem dX9_happen_0 : decode cX9_happen 0 = .ok (.aload_n 0, 1) := by decide +kernel
theorem dX9_happen_1 : decode cX9_happen 1 = .ok (.getfield 22, 3) := by decide +kernel
theorem dX9_happen_4 : decode cX9_happen 4 = .ok (.iload_n 1, 1) := by decide +kernel
theorem dX9_happen_5 : decode cX9_happen 5 = .ok (.iload_n 2, 1) := by decide +kernel
theorem dX9_happen_6 : decode cX9_happen 6 = .ok (.iload_n 3, 1) := by decide +kernel
theorem dX9_happen_7 : decode cX9_happen 7 = .ok (.iload 4, 2) := by decide +kernel
theorem dX9_happen_9 : decode cX9_happen 9 = .ok (.invokevirtual 385, 3) := by decide +kernel
theorem dX9_happen_12 : decode cX9_happen 12 = .ok (.aload_n 0, 1) := by decide +kernel
theorem dX9_happen_13 : decode cX9_happen 13 = .ok (.getfield 10, 3) := by decide +kernel
theorem dX9_happen_16 : decode cX9_happen 16 = .ok (.iload_n 1, 1) := by decide +kernel
theorem dX9_happen_17 : decode cX9_happen 17 = .ok (.iload_n 2, 1) := by decide +kernel
theorem dX9_happen_18 : decode cX9_happen 18 = .ok (.iload_n 3, 1) := by decide +kernel
theorem dX9_happen_19 : decode cX9_happen 19 = .ok (.iload 4, 2) := by decide +kernel
theorem dX9_happen_21 : decode cX9_happen 21 = .ok (.invokevirtual 256, 3) := by decide +kernel
theorem dX9_happen_24 : decode cX9_happen 24 = .ok (.aload_n 0, 1) := by decide +kernel
theorem dX9_happen_25 : decode cX9_happen 25 = .ok (.getfield 10, 3) := by decide +kernel
theorem dX9_happen_28 : decode cX9_happen 28 = .ok (.invokevirtual 257, 3) := by decide +kernel
theorem dX9_happen_31 : decode cX9_happen 31 = .ok (.return_, 1) := by decide +kernel
theorem dX9_isSmallLetter_0 : decode cX9_isSmallLetter 0 = .ok (.iload_n 0, 1) := by decide +kernel
theorem dX9_isSmallLetter_1 : decode cX9_isSmallLetter 1 = .ok (.bipush 97, 2) := by decide +kernel
theorem dX9_isSmallLetter_3 : decode cX9_isSmallLetter 3 = .ok (.if_icmp .lt 13, 3) := by decide +kernel
theorem dX9_isSmallLetter_6 : decode cX9_isSmallLetter 6 = .ok (.iload_n 0, 1) := by decide +kernel
theorem dX9_isSmallLetter_7 : decode cX9_isSmallLetter 7 = .ok (.bipush 122, 2) := by decide +kernel
theorem dX9_isSmallLetter_9 : decode cX9_isSmallLetter 9 = .ok (.if_icmp .gt 7, 3) := by decide +kernel
theorem dX9_isSmallLetter_12 : decode cX9_isSmallLetter 12 = .ok (.iconst 1, 1) := by decide +kernel
theorem dX9_isSmallLetter_13 : decode cX9_isSmallLetter 13 = .ok (.goto 4, 3) := by decide +kernel
theorem dX9_isSmallLetter_16 : decode cX9_isSmallLetter 16 = .ok (.iconst 0, 1) := by decide +kernel
theorem dX9_isSmallLetter_17 : decode cX9_isSmallLetter 17 = .ok (.ireturn, 1) := by decide +kernel
theorem dX9_mayFollow_0 : decode cX9_mayFollow 0 = .ok (.iload_n 1, 1) := by decide +kernel
theorem dX9_mayFollow_1 : decode cX9_mayFollow 1 = .ok (.bipush 32, 2) := by decide +kernel
theorem dX9_mayFollow_3 : decode cX9_mayFollow 3 = .ok (.if_icmp .eq 16, 3) := by decide +kernel
theorem dX9_mayFollow_6 : decode cX9_mayFollow 6 = .ok (.iload_n 0, 1) := by decide +kernel
theorem dX9_mayFollow_7 : decode cX9_mayFollow 7 = .ok (.bipush 32, 2) := by decide +kernel
theorem dX9_mayFollow_9 : decode cX9_mayFollow 9 = .ok (.if_icmp .eq 14, 3) := by decide +kernel
theorem dX9_mayFollow_12 : decode cX9_mayFollow 12 = .ok (.iload_n 1, 1) := by decide +kernel
theorem dX9_mayFollow_13 : decode cX9_mayFollow 13 = .ok (.invokestatic 353, 3) := by decide +kernel
theorem dX9_mayFollow_16 : decode cX9_mayFollow 16 = .ok (.ifCond .eq 7, 3) := by decide +kernel
theorem dX9_mayFollow_19 : decode cX9_mayFollow 19 = .ok (.iconst 1, 1) := by decide +kernel
theorem dX9_mayFollow_20 : decode cX9_mayFollow 20 = .ok (.goto 4, 3) := by decide +kernel
theorem dX9_mayFollow_23 : decode cX9_mayFollow 23 = .ok (.iconst 0, 1) := by decide +kernel
theorem dX9_mayFollow_24 : decode cX9_mayFollow 24 = .ok (.ireturn, 1) := by decide +kernel
theorem dX9_nameOf_0 : decode cX9_nameOf 0 = .ok (.iload_n 0, 1) := by decide +kernel
theorem dX9_nameOf_1 : decode cX9_nameOf 1 = .ok (.bipush 24, 2) := by decide +kernel
theorem dX9_nameOf_3 : decode cX9_nameOf 3 = .ok (.ishl, 1) := by decide +kernel
theorem dX9_nameOf_4 : decode cX9_nameOf 4 = .ok (.iload_n 1, 1) := by decide +kernel
theorem dX9_nameOf_5 : decode cX9_nameOf 5 = .ok (.bipush 16, 2) := by decide +kernel
theorem dX9_nameOf_7 : decode cX9_nameOf 7 = .ok (.ishl, 1) := by decide +kernel
theorem dX9_nameOf_8 : decode cX9_nameOf 8 = .ok (.ior, 1) := by decide +kernel
theorem dX9_nameOf_9 : decode cX9_nameOf 9 = .ok (.iload_n 2, 1) := by decide +kernel
theorem dX9_nameOf_10 : decode cX9_nameOf 10 = .ok (.bipush 8, 2) := by decide +kernel
theorem dX9_nameOf_12 : decode cX9_nameOf 12 = .ok (.ishl, 1) := by decide +kernel
theorem dX9_nameOf_13 : decode cX9_nameOf 13 = .ok (.ior, 1) := by decide +kernel
theorem dX9_nameOf_14 : decode cX9_nameOf 14 = .ok (.iload_n 3, 1) := by decide +kernel
theorem dX9_nameOf_15 : decode cX9_nameOf 15 = .ok (.ior, 1) := by decide +kernel
theorem dX9_nameOf_16 : decode cX9_nameOf 16 = .ok (.ireturn, 1) := by decide +kernel
theorem dX9_characterOf_0 : decode cX9_characterOf 0 = .ok (.iload_n 0, 1) := by decide +kernel
theorem dX9_characterOf_1 : decode cX9_characterOf 1 = .ok (.bipush 8, 2) := by decide +kernel
theorem dX9_characterOf_3 : decode cX9_characterOf 3 = .ok (.iconst 3, 1) := by decide +kernel
theorem dX9_characterOf_4 : decode cX9_characterOf 4 = .ok (.iload_n 1, 1) := by decide +kernel
theorem dX9_characterOf_5 : decode cX9_characterOf 5 = .ok (.isub, 1) := by decide +kernel
theorem dX9_characterOf_6 : decode cX9_characterOf 6 = .ok (.imul, 1) := by decide +kernel
theorem dX9_characterOf_7 : decode cX9_characterOf 7 = .ok (.ishr, 1) := by decide +kernel
theorem dX9_characterOf_8 : decode cX9_characterOf 8 = .ok (.sipush 255, 3) := by decide +kernel
theorem dX9_characterOf_11 : decode cX9_characterOf 11 = .ok (.iand, 1) := by decide +kernel
theorem dX9_characterOf_12 : decode cX9_characterOf 12 = .ok (.i2c, 1) := by decide +kernel
theorem dX9_characterOf_13 : decode cX9_characterOf 13 = .ok (.ireturn, 1) := by decide +kernel
theorem dX9_around_0 : decode cX9_around 0 = .ok (.iload_n 1, 1) := by decide +kernel
theorem dX9_around_1 : decode cX9_around 1 = .ok (.ifCond .le 11, 3) := by decide +kernel
theorem dX9_around_4 : decode cX9_around 4 = .ok (.iload_n 0, 1) := by decide +kernel
theorem dX9_around_5 : decode cX9_around 5 = .ok (.iload_n 1, 1) := by decide +kernel
theorem dX9_around_6 : decode cX9_around 6 = .ok (.invokestatic 388, 3) := by decide +kernel
theorem dX9_around_9 : decode cX9_around 9 = .ok (.goto 4, 3) := by decide +kernel
theorem dX9_around_12 : decode cX9_around 12 = .ok (.iconst 0, 1) := by decide +kernel
theorem dX9_around_13 : decode cX9_around 13 = .ok (.ireturn, 1) := by decide +kernel
theorem dJx00060_init_a7421_0 : decode cJx00060_init_a7421 0 = .ok (.aload_n 0, 1) := by decide +kernel
theorem dJx00060_init_a7421_1 : decode cJx00060_init_a7421 1 = .ok (.aload_n 1, 1) := by decide +kernel
theorem dJx00060_init_a7421_2 : decode cJx00060_init_a7421 2 = .ok (.invokespecial 7, 3) := by decide +kernel
theorem dJx00060_init_a7421_5 : decode cJx00060_init_a7421 5 = .ok (.return_, 1) := by decide +kernel
theorem dJ6_bitCount_0f7a4_0 : decode cJ6_bitCount_0f7a4 0 = .ok (.iload_n 0, 1) := by decide +kernel
theorem dJ6_bitCount_0f7a4_1 : decode cJ6_bitCount_0f7a4 1 = .ok (.iload_n 0, 1) := by decide +kernel
theorem dJ6_bitCount_0f7a4_2 : decode cJ6_bitCount_0f7a4 2 = .ok (.iconst 1, 1) := by decide +kernel
theorem dJ6_bitCount_0f7a4_3 : decode cJ6_bitCount_0f7a4 3 = .ok (.iushr, 1) := by decide +kernel
theorem dJ6_bitCount_0f7a4_4 : decode cJ6_bitCount_0f7a4 4 = .ok (.ldc_w 265, 3) := by decide +kernel
theorem dJ6_bitCount_0f7a4_7 : decode cJ6_bitCount_0f7a4 7 = .ok (.iand, 1) := by decide +kernel
theorem dJ6_bitCount_0f7a4_8 : decode cJ6_bitCount_0f7a4 8 = .ok (.isub, 1) := by decide +kernel
theorem dJ6_bitCount_0f7a4_9 : decode cJ6_bitCount_0f7a4 9 = .ok (.istore_n 0, 1) := by decide +kernel
theorem dJ6_bitCount_0f7a4_10 : decode cJ6_bitCount_0f7a4 10 = .ok (.iload_n 0, 1) := by decide +kernel
theorem dJ6_bitCount_0f7a4_11 : decode cJ6_bitCount_0f7a4 11 = .ok (.ldc_w 266, 3) := by decide +kernel
theorem dJ6_bitCount_0f7a4_14 : decode cJ6_bitCount_0f7a4 14 = .ok (.iand, 1) := by decide +kernel
theorem dJ6_bitCount_0f7a4_15 : decode cJ6_bitCount_0f7a4 15 = .ok (.iload_n 0, 1) := by decide +kernel
theorem dJ6_bitCount_0f7a4_16 : decode cJ6_bitCount_0f7a4 16 = .ok (.iconst 2, 1) := by decide +kernel
theorem dJ6_bitCount_0f7a4_17 : decode cJ6_bitCount_0f7a4 17 = .ok (.iushr, 1) := by decide +kernel
theorem dJ6_bitCount_0f7a4_18 : decode cJ6_bitCount_0f7a4 18 = .ok (.ldc_w 266, 3) := by decide +kernel
theorem dJ6_bitCount_0f7a4_21 : decode cJ6_bitCount_0f7a4 21 = .ok (.iand, 1) := by decide +kernel
theorem dJ6_bitCount_0f7a4_22 : decode cJ6_bitCount_0f7a4 22 = .ok (.iadd, 1) := by decide +kernel
theorem dJ6_bitCount_0f7a4_23 : decode cJ6_bitCount_0f7a4 23 = .ok (.istore_n 0, 1) := by decide +kernel
theorem dJ6_bitCount_0f7a4_24 : decode cJ6_bitCount_0f7a4 24 = .ok (.iload_n 0, 1) := by decide +kernel
theorem dJ6_bitCount_0f7a4_25 : decode cJ6_bitCount_0f7a4 25 = .ok (.iload_n 0, 1) := by decide +kernel
theorem dJ6_bitCount_0f7a4_26 : decode cJ6_bitCount_0f7a4 26 = .ok (.iconst 4, 1) := by decide +kernel
theorem dJ6_bitCount_0f7a4_27 : decode cJ6_bitCount_0f7a4 27 = .ok (.iushr, 1) := by decide +kernel
theorem dJ6_bitCount_0f7a4_28 : decode cJ6_bitCount_0f7a4 28 = .ok (.iadd, 1) := by decide +kernel
theorem dJ6_bitCount_0f7a4_29 : decode cJ6_bitCount_0f7a4 29 = .ok (.ldc_w 267, 3) := by decide +kernel
theorem dJ6_bitCount_0f7a4_32 : decode cJ6_bitCount_0f7a4 32 = .ok (.iand, 1) := by decide +kernel
theorem dJ6_bitCount_0f7a4_33 : decode cJ6_bitCount_0f7a4 33 = .ok (.istore_n 0, 1) := by decide +kernel
theorem dJ6_bitCount_0f7a4_34 : decode cJ6_bitCount_0f7a4 34 = .ok (.iload_n 0, 1) := by decide +kernel
theorem dJ6_bitCount_0f7a4_35 : decode cJ6_bitCount_0f7a4 35 = .ok (.iload_n 0, 1) := by decide +kernel
theorem dJ6_bitCount_0f7a4_36 : decode cJ6_bitCount_0f7a4 36 = .ok (.bipush 8, 2) := by decide +kernel
theorem dJ6_bitCount_0f7a4_38 : decode cJ6_bitCount_0f7a4 38 = .ok (.iushr, 1) := by decide +kernel
theorem dJ6_bitCount_0f7a4_39 : decode cJ6_bitCount_0f7a4 39 = .ok (.iadd, 1) := by decide +kernel
theorem dJ6_bitCount_0f7a4_40 : decode cJ6_bitCount_0f7a4 40 = .ok (.istore_n 0, 1) := by decide +kernel
theorem dJ6_bitCount_0f7a4_41 : decode cJ6_bitCount_0f7a4 41 = .ok (.iload_n 0, 1) := by decide +kernel
theorem dJ6_bitCount_0f7a4_42 : decode cJ6_bitCount_0f7a4 42 = .ok (.iload_n 0, 1) := by decide +kernel
theorem dJ6_bitCount_0f7a4_43 : decode cJ6_bitCount_0f7a4 43 = .ok (.bipush 16, 2) := by decide +kernel
theorem dJ6_bitCount_0f7a4_45 : decode cJ6_bitCount_0f7a4 45 = .ok (.iushr, 1) := by decide +kernel
theorem dJ6_bitCount_0f7a4_46 : decode cJ6_bitCount_0f7a4 46 = .ok (.iadd, 1) := by decide +kernel
theorem dJ6_bitCount_0f7a4_47 : decode cJ6_bitCount_0f7a4 47 = .ok (.istore_n 0, 1) := by decide +kernel
theorem dJ6_bitCount_0f7a4_48 : decode cJ6_bitCount_0f7a4 48 = .ok (.iload_n 0, 1) := by decide +kernel
theorem dJ6_bitCount_0f7a4_49 : decode cJ6_bitCount_0f7a4 49 = .ok (.bipush 63, 2) := by decide +kernel
theorem dJ6_bitCount_0f7a4_51 : decode cJ6_bitCount_0f7a4 51 = .ok (.iand, 1) := by decide +kernel
theorem dJ6_bitCount_0f7a4_52 : decode cJ6_bitCount_0f7a4 52 = .ok (.ireturn, 1) := by decide +kernel
theorem dJ9_floorMod_7cf53_0 : decode cJ9_floorMod_7cf53 0 = .ok (.iload_n 0, 1) := by decide +kernel
theorem dJ9_floorMod_7cf53_1 : decode cJ9_floorMod_7cf53 1 = .ok (.iload_n 1, 1) := by decide +kernel
theorem dJ9_floorMod_7cf53_2 : decode cJ9_floorMod_7cf53 2 = .ok (.irem, 1) := by decide +kernel
theorem dJ9_floorMod_7cf53_3 : decode cJ9_floorMod_7cf53 3 = .ok (.istore_n 2, 1) := by decide +kernel
theorem dJ9_floorMod_7cf53_4 : decode cJ9_floorMod_7cf53 4 = .ok (.iload_n 0, 1) := by decide +kernel
theorem dJ9_floorMod_7cf53_5 : decode cJ9_floorMod_7cf53 5 = .ok (.iload_n 1, 1) := by decide +kernel
theorem dJ9_floorMod_7cf53_6 : decode cJ9_floorMod_7cf53 6 = .ok (.ixor, 1) := by decide +kernel
theorem dJ9_floorMod_7cf53_7 : decode cJ9_floorMod_7cf53 7 = .ok (.ifCond .ge 11, 3) := by decide +kernel
theorem dJ9_floorMod_7cf53_10 : decode cJ9_floorMod_7cf53 10 = .ok (.iload_n 2, 1) := by decide +kernel
theorem dJ9_floorMod_7cf53_11 : decode cJ9_floorMod_7cf53 11 = .ok (.ifCond .eq 7, 3) := by decide +kernel
theorem dJ9_floorMod_7cf53_14 : decode cJ9_floorMod_7cf53 14 = .ok (.iload_n 2, 1) := by decide +kernel
theorem dJ9_floorMod_7cf53_15 : decode cJ9_floorMod_7cf53 15 = .ok (.iload_n 1, 1) := by decide +kernel
theorem dJ9_floorMod_7cf53_16 : decode cJ9_floorMod_7cf53 16 = .ok (.iadd, 1) := by decide +kernel
theorem dJ9_floorMod_7cf53_17 : decode cJ9_floorMod_7cf53 17 = .ok (.ireturn, 1) := by decide +kernel
theorem dJ9_floorMod_7cf53_18 : decode cJ9_floorMod_7cf53 18 = .ok (.iload_n 2, 1) := by decide +kernel
theorem dJ9_floorMod_7cf53_19 : decode cJ9_floorMod_7cf53 19 = .ok (.ireturn, 1) := by decide +kernel
theorem dX10_init_0 : decode cX10_init 0 = .ok (.aload_n 0, 1) := by decide +kernel
theorem dX10_init_1 : decode cX10_init 1 = .ok (.invokespecial 1, 3) := by decide +kernel
theorem dX10_init_4 : decode cX10_init 4 = .ok (.aload_n 0, 1) := by decide +kernel
theorem dX10_init_5 : decode cX10_init 5 = .ok (.bipush 20, 2) := by decide +kernel
theorem dX10_init_7 : decode cX10_init 7 = .ok (.putfield 7, 3) := by decide +kernel
theorem dX10_init_10 : decode cX10_init 10 = .ok (.aload_n 0, 1) := by decide +kernel
theorem dX10_init_11 : decode cX10_init 11 = .ok (.bipush 25, 2) := by decide +kernel
theorem dX10_init_13 : decode cX10_init 13 = .ok (.putfield 13, 3) := by decide +kernel
theorem dX10_init_16 : decode cX10_init 16 = .ok (.aload_n 0, 1) := by decide +kernel
theorem dX10_init_17 : decode cX10_init 17 = .ok (.bipush 40, 2) := by decide +kernel
theorem dX10_init_19 : decode cX10_init 19 = .ok (.putfield 16, 3) := by decide +kernel
theorem dX10_init_22 : decode cX10_init 22 = .ok (.aload_n 0, 1) := by decide +kernel
theorem dX10_init_23 : decode cX10_init 23 = .ok (.iconst 5, 1) := by decide +kernel
theorem dX10_init_24 : decode cX10_init 24 = .ok (.newarray .int, 2) := by decide +kernel
theorem dX10_init_26 : decode cX10_init 26 = .ok (.putfield 19, 3) := by decide +kernel
theorem dX10_init_29 : decode cX10_init 29 = .ok (.aload_n 0, 1) := by decide +kernel
theorem dX10_init_30 : decode cX10_init 30 = .ok (.iconst 5, 1) := by decide +kernel
theorem dX10_init_31 : decode cX10_init 31 = .ok (.newarray .int, 2) := by decide +kernel
theorem dX10_init_33 : decode cX10_init 33 = .ok (.putfield 23, 3) := by decide +kernel
theorem dX10_init_36 : decode cX10_init 36 = .ok (.aload_n 0, 1) := by decide +kernel
theorem dX10_init_37 : decode cX10_init 37 = .ok (.iconst 5, 1) := by decide +kernel
theorem dX10_init_38 : decode cX10_init 38 = .ok (.newarray .boolean, 2) := by decide +kernel
theorem dX10_init_40 : decode cX10_init 40 = .ok (.putfield 26, 3) := by decide +kernel
theorem dX10_init_43 : decode cX10_init 43 = .ok (.aload_n 0, 1) := by decide +kernel
theorem dX10_init_44 : decode cX10_init 44 = .ok (.bipush 40, 2) := by decide +kernel
theorem dX10_init_46 : decode cX10_init 46 = .ok (.newarray .int, 2) := by decide +kernel
theorem dX10_init_48 : decode cX10_init 48 = .ok (.putfield 30, 3) := by decide +kernel
theorem dX10_init_51 : decode cX10_init 51 = .ok (.aload_n 0, 1) := by decide +kernel
theorem dX10_init_52 : decode cX10_init 52 = .ok (.bipush 40, 2) := by decide +kernel
theorem dX10_init_54 : decode cX10_init 54 = .ok (.newarray .boolean, 2) := by decide +kernel
theorem dX10_init_56 : decode cX10_init 56 = .ok (.putfield 33, 3) := by decide +kernel
theorem dX10_init_59 : decode cX10_init 59 = .ok (.aload_n 0, 1) := by decide +kernel
theorem dX10_init_60 : decode cX10_init 60 = .ok (.bipush 12, 2) := by decide +kernel
theorem dX10_init_62 : decode cX10_init 62 = .ok (.newarray .int, 2) := by decide +kernel
theorem dX10_init_64 : decode cX10_init 64 = .ok (.putfield 36, 3) := by decide +kernel
theorem dX10_init_67 : decode cX10_init 67 = .ok (.aload_n 0, 1) := by decide +kernel
theorem dX10_init_68 : decode cX10_init 68 = .ok (.bipush 12, 2) := by decide +kernel
theorem dX10_init_70 : decode cX10_init 70 = .ok (.newarray .int, 2) := by decide +kernel
theorem dX10_init_72 : decode cX10_init 72 = .ok (.putfield 39, 3) := by decide +kernel
theorem dX10_init_75 : decode cX10_init 75 = .ok (.aload_n 0, 1) := by decide +kernel
theorem dX10_init_76 : decode cX10_init 76 = .ok (.bipush 48, 2) := by decide +kernel
theorem dX10_init_78 : decode cX10_init 78 = .ok (.newarray .char, 2) := by decide +kernel
theorem dX10_init_80 : decode cX10_init 80 = .ok (.putfield 42, 3) := by decide +kernel
theorem dX10_init_83 : decode cX10_init 83 = .ok (.aload_n 0, 1) := by decide +kernel
theorem dX10_init_84 : decode cX10_init 84 = .ok (.bipush 12, 2) := by decide +kernel
theorem dX10_init_86 : decode cX10_init 86 = .ok (.newarray .int, 2) := by decide +kernel
theorem dX10_init_88 : decode cX10_init 88 = .ok (.putfield 46, 3) := by decide +kernel
theorem dX10_init_91 : decode cX10_init 91 = .ok (.aload_n 0, 1) := by decide +kernel
theorem dX10_init_92 : decode cX10_init 92 = .ok (.bipush 12, 2) := by decide +kernel
theorem dX10_init_94 : decode cX10_init 94 = .ok (.newarray .int, 2) := by decide +kernel
theorem dX10_init_96 : decode cX10_init 96 = .ok (.putfield 49, 3) := by decide +kernel
theorem dX10_init_99 : decode cX10_init 99 = .ok (.aload_n 0, 1) := by decide +kernel
theorem dX10_init_100 : decode cX10_init 100 = .ok (.bipush 12, 2) := by decide +kernel
theorem dX10_init_102 : decode cX10_init 102 = .ok (.newarray .boolean, 2) := by decide +kernel
theorem dX10_init_104 : decode cX10_init 104 = .ok (.putfield 52, 3) := by decide +kernel
theorem dX10_init_107 : decode cX10_init 107 = .ok (.aload_n 0, 1) := by decide +kernel
theorem dX10_init_108 : decode cX10_init 108 = .ok (.bipush 12, 2) := by decide +kernel
theorem dX10_init_110 : decode cX10_init 110 = .ok (.newarray .int, 2) := by decide +kernel
theorem dX10_init_112 : decode cX10_init 112 = .ok (.putfield 55, 3) := by decide +kernel
theorem dX10_init_115 : decode cX10_init 115 = .ok (.aload_n 0, 1) := by decide +kernel
theorem dX10_init_116 : decode cX10_init 116 = .ok (.bipush 12, 2) := by decide +kernel
theorem dX10_init_118 : decode cX10_init 118 = .ok (.newarray .int, 2) := by decide +kernel
theorem dX10_init_120 : decode cX10_init 120 = .ok (.putfield 58, 3) := by decide +kernel
theorem dX10_init_123 : decode cX10_init 123 = .ok (.aload_n 0, 1) := by decide +kernel
theorem dX10_init_124 : decode cX10_init 124 = .ok (.bipush 12, 2) := by decide +kernel
theorem dX10_init_126 : decode cX10_init 126 = .ok (.newarray .int, 2) := by decide +kernel
theorem dX10_init_128 : decode cX10_init 128 = .ok (.putfield 61, 3) := by decide +kernel
theorem dX10_init_131 : decode cX10_init 131 = .ok (.aload_n 0, 1) := by decide +kernel
theorem dX10_init_132 : decode cX10_init 132 = .ok (.sipush 150, 3) := by decide +kernel
theorem dX10_init_135 : decode cX10_init 135 = .ok (.newarray .int, 2) := by decide +kernel
theorem dX10_init_137 : decode cX10_init 137 = .ok (.putfield 64, 3) := by decide +kernel
theorem dX10_init_140 : decode cX10_init 140 = .ok (.aload_n 0, 1) := by decide +kernel
theorem dX10_init_141 : decode cX10_init 141 = .ok (.sipush 150, 3) := by decide +kernel
theorem dX10_init_144 : decode cX10_init 144 = .ok (.newarray .int, 2) := by decide +kernel
theorem dX10_init_146 : decode cX10_init 146 = .ok (.putfield 67, 3) := by decide +kernel
theorem dX10_init_149 : decode cX10_init 149 = .ok (.aload_n 0, 1) := by decide +kernel
theorem dX10_init_150 : decode cX10_init 150 = .ok (.sipush 150, 3) := by decide +kernel
theorem dX10_init_153 : decode cX10_init 153 = .ok (.newarray .boolean, 2) := by decide +kernel
theorem dX10_init_155 : decode cX10_init 155 = .ok (.putfield 70, 3) := by decide +kernel
theorem dX10_init_158 : decode cX10_init 158 = .ok (.aload_n 0, 1) := by decide +kernel
theorem dX10_init_159 : decode cX10_init 159 = .ok (.sipush 150, 3) := by decide +kernel
theorem dX10_init_162 : decode cX10_init 162 = .ok (.newarray .int, 2) := by decide +kernel
theorem dX10_init_164 : decode cX10_init 164 = .ok (.putfield 73, 3) := by decide +kernel
theorem dX10_init_167 : decode cX10_init 167 = .ok (.aload_n 0, 1) := by decide +kernel
theorem dX10_init_168 : decode cX10_init 168 = .ok (.bipush 26, 2) := by decide +kernel
theorem dX10_init_170 : decode cX10_init 170 = .ok (.newarray .char, 2) := by decide +kernel
theorem dX10_init_172 : decode cX10_init 172 = .ok (.putfield 76, 3) := by decide +kernel
theorem dX10_init_175 : decode cX10_init 175 = .ok (.aload_n 0, 1) := by decide +kernel
theorem dX10_init_176 : decode cX10_init 176 = .ok (.bipush 12, 2) := by decide +kernel
theorem dX10_init_178 : decode cX10_init 178 = .ok (.newarray .int, 2) := by decide +kernel
theorem dX10_init_180 : decode cX10_init 180 = .ok (.putfield 79, 3) := by decide +kernel
theorem dX10_init_183 : decode cX10_init 183 = .ok (.aload_n 0, 1) := by decide +kernel
theorem dX10_init_184 : decode cX10_init 184 = .ok (.bipush 12, 2) := by decide +kernel
theorem dX10_init_186 : decode cX10_init 186 = .ok (.newarray .int, 2) := by decide +kernel
theorem dX10_init_188 : decode cX10_init 188 = .ok (.putfield 82, 3) := by decide +kernel
theorem dX10_init_191 : decode cX10_init 191 = .ok (.return_, 1) := by decide +kernel
theorem dX10_thrown_0 : decode cX10_thrown 0 = .ok (.aload_n 0, 1) := by decide +kernel
theorem dX10_thrown_1 : decode cX10_thrown 1 = .ok (.getfield 85, 3) := by decide +kernel
theorem dX10_thrown_4 : decode cX10_thrown 4 = .ok (.ireturn, 1) := by decide +kernel
theorem dX10_isIn_0 : decode cX10_isIn 0 = .ok (.iload_n 0, 1) := by decide +kernel
theorem dX10_isIn_1 : decode cX10_isIn 1 = .ok (.iload_n 1, 1) := by decide +kernel
theorem dX10_isIn_2 : decode cX10_isIn 2 = .ok (.if_icmp .lt 12, 3) := by decide +kernel
theorem dX10_isIn_5 : decode cX10_isIn 5 = .ok (.iload_n 0, 1) := by decide +kernel
theorem dX10_isIn_6 : decode cX10_isIn 6 = .ok (.iload_n 2, 1) := by decide +kernel
theorem dX10_isIn_7 : decode cX10_isIn 7 = .ok (.if_icmp .gt 7, 3) := by decide +kernel
theorem dX10_isIn_10 : decode cX10_isIn 10 = .ok (.iconst 1, 1) := by decide +kernel
theorem dX10_isIn_11 : decode cX10_isIn 11 = .ok (.goto 4, 3) := by decide +kernel
theorem dX10_isIn_14 : decode cX10_isIn 14 = .ok (.iconst 0, 1) := by decide +kernel
theorem dX10_isIn_15 : decode cX10_isIn 15 = .ok (.ireturn, 1) := by decide +kernel
theorem dX10_isArea_0 : decode cX10_isArea 0 = .ok (.iload_n 1, 1) := by decide +kernel
theorem dX10_isArea_1 : decode cX10_isArea 1 = .ok (.iconst 0, 1) := by decide +kernel
theorem dX10_isArea_2 : decode cX10_isArea 2 = .ok (.aload_n 0, 1) := by decide +kernel
theorem dX10_isArea_3 : decode cX10_isArea 3 = .ok (.getfield 88, 3) := by decide +kernel
theorem dX10_isArea_6 : decode cX10_isArea 6 = .ok (.iconst 1, 1) := by decide +kernel
theorem dX10_isArea_7 : decode cX10_isArea 7 = .ok (.isub, 1) := by decide +kernel
theorem dX10_isArea_8 : decode cX10_isArea 8 = .ok (.invokestatic 91, 3) := by decide +kernel
theorem dX10_isArea_11 : decode cX10_isArea 11 = .ok (.ireturn, 1) := by decide +kernel
theorem dX10_isVoter_0 : decode cX10_isVoter 0 = .ok (.iload_n 1, 1) := by decide +kernel
theorem dX10_isVoter_1 : decode cX10_isVoter 1 = .ok (.iconst 0, 1) := by decide +kernel
theorem dX10_isVoter_2 : decode cX10_isVoter 2 = .ok (.aload_n 0, 1) := by decide +kernel
theorem dX10_isVoter_3 : decode cX10_isVoter 3 = .ok (.getfield 95, 3) := by decide +kernel
theorem dX10_isVoter_6 : decode cX10_isVoter 6 = .ok (.iconst 1, 1) := by decide +kernel
theorem dX10_isVoter_7 : decode cX10_isVoter 7 = .ok (.isub, 1) := by decide +kernel
theorem dX10_isVoter_8 : decode cX10_isVoter 8 = .ok (.invokestatic 91, 3) := by decide +kernel
theorem dX10_isVoter_11 : decode cX10_isVoter 11 = .ok (.ireturn, 1) := by decide +kernel
theorem dX10_isPaper_0 : decode cX10_isPaper 0 = .ok (.iload_n 1, 1) := by decide +kernel
theorem dX10_isPaper_1 : decode cX10_isPaper 1 = .ok (.iconst 0, 1) := by decide +kernel
theorem dX10_isPaper_2 : decode cX10_isPaper 2 = .ok (.aload_n 0, 1) := by decide +kernel
theorem dX10_isPaper_3 : decode cX10_isPaper 3 = .ok (.getfield 98, 3) := by decide +kernel
theorem dX10_isPaper_6 : decode cX10_isPaper 6 = .ok (.iconst 1, 1) := by decide +kernel
theorem dX10_isPaper_7 : decode cX10_isPaper 7 = .ok (.isub, 1) := by decide +kernel
theorem dX10_isPaper_8 : decode cX10_isPaper 8 = .ok (.invokestatic 91, 3) := by decide +kernel
theorem dX10_isPaper_11 : decode cX10_isPaper 11 = .ok (.ireturn, 1) := by decide +kernel
theorem dX10_open_0 : decode cX10_open 0 = .ok (.aload_n 0, 1) := by decide +kernel
theorem dX10_open_1 : decode cX10_open 1 = .ok (.getfield 101, 3) := by decide +kernel
theorem dX10_open_4 : decode cX10_open 4 = .ok (.aload_n 0, 1) := by decide +kernel
theorem dX10_open_5 : decode cX10_open 5 = .ok (.getfield 7, 3) := by decide +kernel
theorem dX10_open_8 : decode cX10_open 8 = .ok (.if_icmp .gt 7, 3) := by decide +kernel
theorem dX10_open_11 : decode cX10_open 11 = .ok (.iconst 1, 1) := by decide +kernel
theorem dX10_open_12 : decode cX10_open 12 = .ok (.goto 4, 3) := by decide +kernel
theorem dX10_open_15 : decode cX10_open 15 = .ok (.iconst 0, 1) := by decide +kernel
theorem dX10_open_16 : decode cX10_open 16 = .ok (.ireturn, 1) := by decide +kernel
theorem dX10_fails_0 : decode cX10_fails 0 = .ok (.aload_n 0, 1) := by decide +kernel
theorem dX10_fails_1 : decode cX10_fails 1 = .ok (.iload_n 1, 1) := by decide +kernel
theorem dX10_fails_2 : decode cX10_fails 2 = .ok (.putfield 85, 3) := by decide +kernel
theorem dX10_fails_5 : decode cX10_fails 5 = .ok (.iconst 0, 1) := by decide +kernel
theorem dX10_fails_6 : decode cX10_fails 6 = .ok (.ireturn, 1) := by decide +kernel
theorem dX10_setCalendar_0 : decode cX10_setCalendar 0 = .ok (.aload_n 0, 1) := by decide +kernel
theorem dX10_setCalendar_1 : decode cX10_setCalendar 1 = .ok (.iconst 0, 1) := by decide +kernel
theorem dX10_setCalendar_2 : decode cX10_setCalendar 2 = .ok (.putfield 85, 3) := by decide +kernel
theorem dX10_setCalendar_5 : decode cX10_setCalendar 5 = .ok (.iload_n 1, 1) := by decide +kernel
theorem dX10_setCalendar_6 : decode cX10_setCalendar 6 = .ok (.ifCond .lt 19, 3) := by decide +kernel
theorem dX10_setCalendar_9 : decode cX10_setCalendar 9 = .ok (.iload_n 2, 1) := by decide +kernel
theorem dX10_setCalendar_10 : decode cX10_setCalendar 10 = .ok (.iload_n 1, 1) := by decide +kernel
theorem dX10_setCalendar_11 : decode cX10_setCalendar 11 = .ok (.if_icmp .lt 14, 3) := by decide +kernel
theorem dX10_setCalendar_14 : decode cX10_setCalendar 14 = .ok (.iload_n 3, 1) := by decide +kernel
theorem dX10_setCalendar_15 : decode cX10_setCalendar 15 = .ok (.iload_n 2, 1) := by decide +kernel
theorem dX10_setCalendar_16 : decode cX10_setCalendar 16 = .ok (.if_icmp .le 9, 3) := by decide +kernel
theorem dX10_setCalendar_19 : decode cX10_setCalendar 19 = .ok (.iload_n 3, 1) := by decide +kernel
theorem dX10_setCalendar_20 : decode cX10_setCalendar 20 = .ok (.bipush 60, 2) := by decide +kernel
theorem dX10_setCalendar_22 : decode cX10_setCalendar 22 = .ok (.if_icmp .le 9, 3) := by decide +kernel
theorem dX10_setCalendar_25 : decode cX10_setCalendar 25 = .ok (.aload_n 0, 1) := by decide +kernel
theorem dX10_setCalendar_26 : decode cX10_setCalendar 26 = .ok (.iconst 1, 1) := by decide +kernel
theorem dX10_setCalendar_27 : decode cX10_setCalendar 27 = .ok (.invokevirtual 104, 3) := by decide +kernel
theorem dX10_setCalendar_30 : decode cX10_setCalendar 30 = .ok (.ireturn, 1) := by decide +kernel
theorem dX10_setCalendar_31 : decode cX10_setCalendar 31 = .ok (.aload_n 0, 1) := by decide +kernel
theorem dX10_setCalendar_32 : decode cX10_setCalendar 32 = .ok (.getfield 101, 3) := by decide +kernel
theorem dX10_setCalendar_35 : decode cX10_setCalendar 35 = .ok (.ifCond .gt 10, 3) := by decide +kernel
theorem dX10_setCalendar_38 : decode cX10_setCalendar 38 = .ok (.aload_n 0, 1) := by decide +kernel
theorem dX10_setCalendar_39 : decode cX10_setCalendar 39 = .ok (.getfield 98, 3) := by decide +kernel
theorem dX10_setCalendar_42 : decode cX10_setCalendar 42 = .ok (.ifCond .le 9, 3) := by decide +kernel
theorem dX10_setCalendar_45 : decode cX10_setCalendar 45 = .ok (.aload_n 0, 1) := by decide +kernel
theorem dX10_setCalendar_46 : decode cX10_setCalendar 46 = .ok (.iconst 2, 1) := by decide +kernel
theorem dX10_setCalendar_47 : decode cX10_setCalendar 47 = .ok (.invokevirtual 104, 3) := by decide +kernel
theorem dX10_setCalendar_50 : decode cX10_setCalendar 50 = .ok (.ireturn, 1) := by decide +kernel
theorem dX10_setCalendar_51 : decode cX10_setCalendar 51 = .ok (.aload_n 0, 1) := by decide +kernel
theorem dX10_setCalendar_52 : decode cX10_setCalendar 52 = .ok (.getfield 16, 3) := by decide +kernel
theorem dX10_setCalendar_55 : decode cX10_setCalendar 55 = .ok (.istore 4, 2) := by decide +kernel
theorem dX10_setCalendar_57 : decode cX10_setCalendar 57 = .ok (.aload_n 0, 1) := by decide +kernel
theorem dX10_setCalendar_58 : decode cX10_setCalendar 58 = .ok (.iload_n 1, 1) := by decide +kernel
theorem dX10_setCalendar_59 : decode cX10_setCalendar 59 = .ok (.putfield 7, 3) := by decide +kernel
theorem dX10_setCalendar_62 : decode cX10_setCalendar 62 = .ok (.aload_n 0, 1) := by decide +kernel
theorem dX10_setCalendar_63 : decode cX10_setCalendar 63 = .ok (.iload_n 2, 1) := by decide +kernel
theorem dX10_setCalendar_64 : decode cX10_setCalendar 64 = .ok (.putfield 13, 3) := by decide +kernel
theorem dX10_setCalendar_67 : decode cX10_setCalendar 67 = .ok (.aload_n 0, 1) := by decide +kernel
theorem dX10_setCalendar_68 : decode cX10_setCalendar 68 = .ok (.iload_n 3, 1) := by decide +kernel
theorem dX10_setCalendar_69 : decode cX10_setCalendar 69 = .ok (.putfield 16, 3) := by decide +kernel
theorem dX10_setCalendar_72 : decode cX10_setCalendar 72 = .ok (.iload 4, 2) := by decide +kernel
theorem dX10_setCalendar_74 : decode cX10_setCalendar 74 = .ok (.ireturn, 1) := by decide +kernel
theorem dX10_pass_0 : decode cX10_pass 0 = .ok (.aload_n 0, 1) := by decide +kernel
theorem dX10_pass_1 : decode cX10_pass 1 = .ok (.iconst 0, 1) := by decide +kernel
theorem dX10_pass_2 : decode cX10_pass 2 = .ok (.putfield 85, 3) := by decide +kernel
theorem dX10_pass_5 : decode cX10_pass 5 = .ok (.iload_n 1, 1) := by decide +kernel
theorem dX10_pass_6 : decode cX10_pass 6 = .ok (.iconst 1, 1) := by decide +kernel
theorem dX10_pass_7 : decode cX10_pass 7 = .ok (.bipush 30, 2) := by decide +kernel
theorem dX10_pass_9 : decode cX10_pass 9 = .ok (.invokestatic 91, 3) := by decide +kernel
theorem dX10_pass_12 : decode cX10_pass 12 = .ok (.ifCond .ne 9, 3) := by decide +kernel
theorem dX10_pass_15 : decode cX10_pass 15 = .ok (.aload_n 0, 1) := by decide +kernel
theorem dX10_pass_16 : decode cX10_pass 16 = .ok (.iconst 1, 1) := by decide +kernel
theorem dX10_pass_17 : decode cX10_pass 17 = .ok (.invokevirtual 104, 3) := by decide +kernel
theorem dX10_pass_20 : decode cX10_pass 20 = .ok (.ireturn, 1) := by decide +kernel
theorem dX10_pass_21 : decode cX10_pass 21 = .ok (.aload_n 0, 1) := by decide +kernel
theorem dX10_pass_22 : decode cX10_pass 22 = .ok (.getfield 101, 3) := by decide +kernel
theorem dX10_pass_25 : decode cX10_pass 25 = .ok (.iload_n 1, 1) := by decide +kernel
theorem dX10_pass_26 : decode cX10_pass 26 = .ok (.iadd, 1) := by decide +kernel
theorem dX10_pass_27 : decode cX10_pass 27 = .ok (.bipush 99, 2) := by decide +kernel
theorem dX10_pass_29 : decode cX10_pass 29 = .ok (.if_icmp .le 9, 3) := by decide +kernel
theorem dX10_pass_32 : decode cX10_pass 32 = .ok (.aload_n 0, 1) := by decide +kernel
theorem dX10_pass_33 : decode cX10_pass 33 = .ok (.iconst 2, 1) := by decide +kernel
theorem dX10_pass_34 : decode cX10_pass 34 = .ok (.invokevirtual 104, 3) := by decide +kernel
theorem dX10_pass_37 : decode cX10_pass 37 = .ok (.ireturn, 1) := by decide +kernel
theorem dX10_pass_38 : decode cX10_pass 38 = .ok (.aload_n 0, 1) := by decide +kernel
theorem dX10_pass_39 : decode cX10_pass 39 = .ok (.invokevirtual 108, 3) := by decide +kernel
theorem dX10_pass_42 : decode cX10_pass 42 = .ok (.ifCond .eq 20, 3) := by decide +kernel
theorem dX10_pass_45 : decode cX10_pass 45 = .ok (.aload_n 0, 1) := by decide +kernel
theorem dX10_pass_46 : decode cX10_pass 46 = .ok (.getfield 101, 3) := by decide +kernel
theorem dX10_pass_49 : decode cX10_pass 49 = .ok (.iload_n 1, 1) := by decide +kernel
theorem dX10_pass_50 : decode cX10_pass 50 = .ok (.iadd, 1) := by decide +kernel
theorem dX10_pass_51 : decode cX10_pass 51 = .ok (.aload_n 0, 1) := by decide +kernel
theorem dX10_pass_52 : decode cX10_pass 52 = .ok (.getfield 7, 3) := by decide +kernel
theorem dX10_pass_55 : decode cX10_pass 55 = .ok (.if_icmp .le 7, 3) := by decide +kernel
theorem dX10_pass_58 : decode cX10_pass 58 = .ok (.aload_n 0, 1) := by decide +kernel
theorem dX10_pass_59 : decode cX10_pass 59 = .ok (.invokevirtual 112, 3) := by decide +kernel
theorem dX10_pass_62 : decode cX10_pass 62 = .ok (.aload_n 0, 1) := by decide +kernel
theorem dX10_pass_63 : decode cX10_pass 63 = .ok (.dup, 1) := by decide +kernel
theorem dX10_pass_64 : decode cX10_pass 64 = .ok (.getfield 101, 3) := by decide +kernel
theorem dX10_pass_67 : decode cX10_pass 67 = .ok (.iload_n 1, 1) := by decide +kernel
theorem dX10_pass_68 : decode cX10_pass 68 = .ok (.iadd, 1) := by decide +kernel
theorem dX10_pass_69 : decode cX10_pass 69 = .ok (.putfield 101, 3) := by decide +kernel
theorem dX10_pass_72 : decode cX10_pass 72 = .ok (.aload_n 0, 1) := by decide +kernel
theorem dX10_pass_73 : decode cX10_pass 73 = .ok (.getfield 101, 3) := by decide +kernel
theorem dX10_pass_76 : decode cX10_pass 76 = .ok (.ireturn, 1) := by decide +kernel
theorem dX10_close_0 : decode cX10_close 0 = .ok (.iconst 0, 1) := by decide +kernel
theorem dX10_close_1 : decode cX10_close 1 = .ok (.istore_n 1, 1) := by decide +kernel
theorem dX10_close_2 : decode cX10_close 2 = .ok (.iload_n 1, 1) := by decide +kernel
theorem dX10_close_3 : decode cX10_close 3 = .ok (.aload_n 0, 1) := by decide +kernel
theorem dX10_close_4 : decode cX10_close 4 = .ok (.getfield 115, 3) := by decide +kernel
theorem dX10_close_7 : decode cX10_close 7 = .ok (.if_icmp .ge 21, 3) := by decide +kernel
theorem dX10_close_10 : decode cX10_close 10 = .ok (.aload_n 0, 1) := by decide +kernel
theorem dX10_close_11 : decode cX10_close 11 = .ok (.getfield 73, 3) := by decide +kernel
theorem dX10_close_14 : decode cX10_close 14 = .ok (.iload_n 1, 1) := by decide +kernel
theorem dX10_close_15 : decode cX10_close 15 = .ok (.aload_n 0, 1) := by decide +kernel
theorem dX10_close_16 : decode cX10_close 16 = .ok (.iload_n 1, 1) := by decide +kernel
theorem dX10_close_17 : decode cX10_close 17 = .ok (.iconst 0, 1) := by decide +kernel
theorem dX10_close_18 : decode cX10_close 18 = .ok (.invokevirtual 118, 3) := by decide +kernel
theorem dX10_close_21 : decode cX10_close 21 = .ok (.iastore, 1) := by decide +kernel
theorem dX10_close_22 : decode cX10_close 22 = .ok (.iinc 1 1, 3) := by decide +kernel
theorem dX10_close_25 : decode cX10_close 25 = .ok (.goto (-23), 3) := by decide +kernel
theorem dX10_close_28 : decode cX10_close 28 = .ok (.iconst 0, 1) := by decide +kernel
theorem dX10_close_29 : decode cX10_close 29 = .ok (.istore_n 1, 1) := by decide +kernel
theorem dX10_close_30 : decode cX10_close 30 = .ok (.iload_n 1, 1) := by decide +kernel
theorem dX10_close_31 : decode cX10_close 31 = .ok (.aload_n 0, 1) := by decide +kernel
theorem dX10_close_32 : decode cX10_close 32 = .ok (.getfield 98, 3) := by decide +kernel
theorem dX10_close_35 : decode cX10_close 35 = .ok (.if_icmp .ge 20, 3) := by decide +kernel
theorem dX10_close_38 : decode cX10_close 38 = .ok (.aload_n 0, 1) := by decide +kernel
theorem dX10_close_39 : decode cX10_close 39 = .ok (.getfield 61, 3) := by decide +kernel
theorem dX10_close_42 : decode cX10_close 42 = .ok (.iload_n 1, 1) := by decide +kernel
theorem dX10_close_43 : decode cX10_close 43 = .ok (.aload_n 0, 1) := by decide +kernel
theorem dX10_close_44 : decode cX10_close 44 = .ok (.iload_n 1, 1) := by decide +kernel
theorem dX10_close_45 : decode cX10_close 45 = .ok (.invokevirtual 122, 3) := by decide +kernel
theorem dX10_close_48 : decode cX10_close 48 = .ok (.iastore, 1) := by decide +kernel
theorem dX10_close_49 : decode cX10_close 49 = .ok (.iinc 1 1, 3) := by decide +kernel
theorem dX10_close_52 : decode cX10_close 52 = .ok (.goto (-22), 3) := by decide +kernel
theorem dX10_close_55 : decode cX10_close 55 = .ok (.return_, 1) := by decide +kernel
theorem dX10_day_0 : decode cX10_day 0 = .ok (.aload_n 0, 1) := by decide +kernel
theorem dX10_day_1 : decode cX10_day 1 = .ok (.iconst 0, 1) := by decide +kernel
theorem dX10_day_2 : decode cX10_day 2 = .ok (.putfield 85, 3) := by decide +kernel
theorem dX10_day_5 : decode cX10_day 5 = .ok (.aload_n 0, 1) := by decide +kernel
theorem dX10_day_6 : decode cX10_day 6 = .ok (.getfield 101, 3) := by decide +kernel
theorem dX10_day_9 : decode cX10_day 9 = .ok (.ireturn, 1) := by decide +kernel
theorem dX10_isOpen_0 : decode cX10_isOpen 0 = .ok (.aload_n 0, 1) := by decide +kernel
theorem dX10_isOpen_1 : decode cX10_isOpen 1 = .ok (.iconst 0, 1) := by decide +kernel
theorem dX10_isOpen_2 : decode cX10_isOpen 2 = .ok (.putfield 85, 3) := by decide +kernel
theorem dX10_isOpen_5 : decode cX10_isOpen 5 = .ok (.aload_n 0, 1) := by decide +kernel
theorem dX10_isOpen_6 : decode cX10_isOpen 6 = .ok (.invokevirtual 108, 3) := by decide +kernel
theorem dX10_isOpen_9 : decode cX10_isOpen 9 = .ok (.ireturn, 1) := by decide +kernel
theorem dX10_addArea_0 : decode cX10_addArea 0 = .ok (.aload_n 0, 1) := by decide +kernel
theorem dX10_addArea_1 : decode cX10_addArea 1 = .ok (.iconst 0, 1) := by decide +kernel
theorem dX10_addArea_2 : decode cX10_addArea 2 = .ok (.putfield 85, 3) := by decide +kernel
theorem dX10_addArea_5 : decode cX10_addArea 5 = .ok (.iload_n 1, 1) := by decide +kernel
theorem dX10_addArea_6 : decode cX10_addArea 6 = .ok (.iconst 1, 1) := by decide +kernel
theorem dX10_addArea_7 : decode cX10_addArea 7 = .ok (.bipush 10, 2) := by decide +kernel
theorem dX10_addArea_9 : decode cX10_addArea 9 = .ok (.invokestatic 91, 3) := by decide +kernel
theorem dX10_addArea_12 : decode cX10_addArea 12 = .ok (.ifCond .eq 14, 3) := by decide +kernel
theorem dX10_addArea_15 : decode cX10_addArea 15 = .ok (.iload_n 2, 1) := by decide +kernel
theorem dX10_addArea_16 : decode cX10_addArea 16 = .ok (.iconst 0, 1) := by decide +kernel
theorem dX10_addArea_17 : decode cX10_addArea 17 = .ok (.sipush 1000, 3) := by decide +kernel
theorem dX10_addArea_20 : decode cX10_addArea 20 = .ok (.invokestatic 91, 3) := by decide +kernel
theorem dX10_addArea_23 : decode cX10_addArea 23 = .ok (.ifCond .ne 9, 3) := by decide +kernel
theorem dX10_addArea_26 : decode cX10_addArea 26 = .ok (.aload_n 0, 1) := by decide +kernel
theorem dX10_addArea_27 : decode cX10_addArea 27 = .ok (.iconst 1, 1) := by decide +kernel
theorem dX10_addArea_28 : decode cX10_addArea 28 = .ok (.invokevirtual 104, 3) := by decide +kernel
theorem dX10_addArea_31 : decode cX10_addArea 31 = .ok (.ireturn, 1) := by decide +kernel
theorem dX10_addArea_32 : decode cX10_addArea 32 = .ok (.aload_n 0, 1) := by decide +kernel
theorem dX10_addArea_33 : decode cX10_addArea 33 = .ok (.getfield 88, 3) := by decide +kernel
theorem dX10_addArea_36 : decode cX10_addArea 36 = .ok (.iconst 5, 1) := by decide +kernel
theorem dX10_addArea_37 : decode cX10_addArea 37 = .ok (.if_icmp .ne 9, 3) := by decide +kernel
theorem dX10_addArea_40 : decode cX10_addArea 40 = .ok (.aload_n 0, 1) := by decide +kernel
theorem dX10_addArea_41 : decode cX10_addArea 41 = .ok (.iconst 2, 1) := by decide +kernel
theorem dX10_addArea_42 : decode cX10_addArea 42 = .ok (.invokevirtual 104, 3) := by decide +kernel
theorem dX10_addArea_45 : decode cX10_addArea 45 = .ok (.ireturn, 1) := by decide +kernel
theorem dX10_addArea_46 : decode cX10_addArea 46 = .ok (.aload_n 0, 1) := by decide +kernel
theorem dX10_addArea_47 : decode cX10_addArea 47 = .ok (.getfield 19, 3) := by decide +kernel
theorem dX10_addArea_50 : decode cX10_addArea 50 = .ok (.aload_n 0, 1) := by decide +kernel
theorem dX10_addArea_51 : decode cX10_addArea 51 = .ok (.getfield 88, 3) := by decide +kernel
theorem dX10_addArea_54 : decode cX10_addArea 54 = .ok (.iload_n 1, 1) := by decide +kernel
theorem dX10_addArea_55 : decode cX10_addArea 55 = .ok (.iastore, 1) := by decide +kernel
theorem dX10_addArea_56 : decode cX10_addArea 56 = .ok (.aload_n 0, 1) := by decide +kernel
theorem dX10_addArea_57 : decode cX10_addArea 57 = .ok (.getfield 23, 3) := by decide +kernel
theorem dX10_addArea_60 : decode cX10_addArea 60 = .ok (.aload_n 0, 1) := by decide +kernel
theorem dX10_addArea_61 : decode cX10_addArea 61 = .ok (.getfield 88, 3) := by decide +kernel
theorem dX10_addArea_64 : decode cX10_addArea 64 = .ok (.iload_n 2, 1) := by decide +kernel
theorem dX10_addArea_65 : decode cX10_addArea 65 = .ok (.iastore, 1) := by decide +kernel
theorem dX10_addArea_66 : decode cX10_addArea 66 = .ok (.aload_n 0, 1) := by decide +kernel
theorem dX10_addArea_67 : decode cX10_addArea 67 = .ok (.dup, 1) := by decide +kernel
theorem dX10_addArea_68 : decode cX10_addArea 68 = .ok (.getfield 88, 3) := by decide +kernel
theorem dX10_addArea_71 : decode cX10_addArea 71 = .ok (.iconst 1, 1) := by decide +kernel
theorem dX10_addArea_72 : decode cX10_addArea 72 = .ok (.iadd, 1) := by decide +kernel
theorem dX10_addArea_73 : decode cX10_addArea 73 = .ok (.putfield 88, 3) := by decide +kernel
theorem dX10_addArea_76 : decode cX10_addArea 76 = .ok (.aload_n 0, 1) := by decide +kernel
theorem dX10_addArea_77 : decode cX10_addArea 77 = .ok (.getfield 88, 3) := by decide +kernel
theorem dX10_addArea_80 : decode cX10_addArea 80 = .ok (.iconst 1, 1) := by decide +kernel
theorem dX10_addArea_81 : decode cX10_addArea 81 = .ok (.isub, 1) := by decide +kernel
theorem dX10_addArea_82 : decode cX10_addArea 82 = .ok (.ireturn, 1) := by decide +kernel
theorem dX10_addVoter_0 : decode cX10_addVoter 0 = .ok (.aload_n 0, 1) := by decide +kernel
theorem dX10_addVoter_1 : decode cX10_addVoter 1 = .ok (.iconst 0, 1) := by decide +kernel
theorem dX10_addVoter_2 : decode cX10_addVoter 2 = .ok (.putfield 85, 3) := by decide +kernel
theorem dX10_addVoter_5 : decode cX10_addVoter 5 = .ok (.aload_n 0, 1) := by decide +kernel
theorem dX10_addVoter_6 : decode cX10_addVoter 6 = .ok (.iload_n 1, 1) := by decide +kernel
theorem dX10_addVoter_7 : decode cX10_addVoter 7 = .ok (.invokevirtual 125, 3) := by decide +kernel
theorem dX10_addVoter_10 : decode cX10_addVoter 10 = .ok (.ifCond .ne 9, 3) := by decide +kernel
theorem dX10_addVoter_13 : decode cX10_addVoter 13 = .ok (.aload_n 0, 1) := by decide +kernel
theorem dX10_addVoter_14 : decode cX10_addVoter 14 = .ok (.iconst 1, 1) := by decide +kernel
theorem dX10_addVoter_15 : decode cX10_addVoter 15 = .ok (.invokevirtual 104, 3) := by decide +kernel
theorem dX10_addVoter_18 : decode cX10_addVoter 18 = .ok (.ireturn, 1) := by decide +kernel
theorem dX10_addVoter_19 : decode cX10_addVoter 19 = .ok (.aload_n 0, 1) := by decide +kernel
theorem dX10_addVoter_20 : decode cX10_addVoter 20 = .ok (.getfield 95, 3) := by decide +kernel
theorem dX10_addVoter_23 : decode cX10_addVoter 23 = .ok (.bipush 40, 2) := by decide +kernel
theorem dX10_addVoter_25 : decode cX10_addVoter 25 = .ok (.if_icmp .ne 9, 3) := by decide +kernel
theorem dX10_addVoter_28 : decode cX10_addVoter 28 = .ok (.aload_n 0, 1) := by decide +kernel
theorem dX10_addVoter_29 : decode cX10_addVoter 29 = .ok (.iconst 2, 1) := by decide +kernel
theorem dX10_addVoter_30 : decode cX10_addVoter 30 = .ok (.invokevirtual 104, 3) := by decide +kernel
theorem dX10_addVoter_33 : decode cX10_addVoter 33 = .ok (.ireturn, 1) := by decide +kernel
theorem dX10_addVoter_34 : decode cX10_addVoter 34 = .ok (.aload_n 0, 1) := by decide +kernel
theorem dX10_addVoter_35 : decode cX10_addVoter 35 = .ok (.getfield 30, 3) := by decide +kernel
theorem dX10_addVoter_38 : decode cX10_addVoter 38 = .ok (.aload_n 0, 1) := by decide +kernel
theorem dX10_addVoter_39 : decode cX10_addVoter 39 = .ok (.getfield 95, 3) := by decide +kernel
theorem dX10_addVoter_42 : decode cX10_addVoter 42 = .ok (.iload_n 1, 1) := by decide +kernel
theorem dX10_addVoter_43 : decode cX10_addVoter 43 = .ok (.iastore, 1) := by decide +kernel
theorem dX10_addVoter_44 : decode cX10_addVoter 44 = .ok (.aload_n 0, 1) := by decide +kernel
theorem dX10_addVoter_45 : decode cX10_addVoter 45 = .ok (.dup, 1) := by decide +kernel
theorem dX10_addVoter_46 : decode cX10_addVoter 46 = .ok (.getfield 95, 3) := by decide +kernel
theorem dX10_addVoter_49 : decode cX10_addVoter 49 = .ok (.iconst 1, 1) := by decide +kernel
theorem dX10_addVoter_50 : decode cX10_addVoter 50 = .ok (.iadd, 1) := by decide +kernel
theorem dX10_addVoter_51 : decode cX10_addVoter 51 = .ok (.putfield 95, 3) := by decide +kernel
theorem dX10_addVoter_54 : decode cX10_addVoter 54 = .ok (.aload_n 0, 1) := by decide +kernel
theorem dX10_addVoter_55 : decode cX10_addVoter 55 = .ok (.getfield 95, 3) := by decide +kernel
theorem dX10_addVoter_58 : decode cX10_addVoter 58 = .ok (.iconst 1, 1) := by decide +kernel
theorem dX10_addVoter_59 : decode cX10_addVoter 59 = .ok (.isub, 1) := by decide +kernel
theorem dX10_addVoter_60 : decode cX10_addVoter 60 = .ok (.ireturn, 1) := by decide +kernel
theorem dX10_move_0 : decode cX10_move 0 = .ok (.aload_n 0, 1) := by decide +kernel
theorem dX10_move_1 : decode cX10_move 1 = .ok (.iconst 0, 1) := by decide +kernel
theorem dX10_move_2 : decode cX10_move 2 = .ok (.putfield 85, 3) := by decide +kernel
theorem dX10_move_5 : decode cX10_move 5 = .ok (.aload_n 0, 1) := by decide +kernel
theorem dX10_move_6 : decode cX10_move 6 = .ok (.iload_n 1, 1) := by decide +kernel
theorem dX10_move_7 : decode cX10_move 7 = .ok (.invokevirtual 129, 3) := by decide +kernel
theorem dX10_move_10 : decode cX10_move 10 = .ok (.ifCond .eq 11, 3) := by decide +kernel
theorem dX10_move_13 : decode cX10_move 13 = .ok (.aload_n 0, 1) := by decide +kernel
theorem dX10_move_14 : decode cX10_move 14 = .ok (.iload_n 2, 1) := by decide +kernel
theorem dX10_move_15 : decode cX10_move 15 = .ok (.invokevirtual 125, 3) := by decide +kernel
theorem dX10_move_18 : decode cX10_move 18 = .ok (.ifCond .ne 9, 3) := by decide +kernel
theorem dX10_move_21 : decode cX10_move 21 = .ok (.aload_n 0, 1) := by decide +kernel
theorem dX10_move_22 : decode cX10_move 22 = .ok (.iconst 1, 1) := by decide +kernel
theorem dX10_move_23 : decode cX10_move 23 = .ok (.invokevirtual 104, 3) := by decide +kernel
theorem dX10_move_26 : decode cX10_move 26 = .ok (.ireturn, 1) := by decide +kernel
theorem dX10_move_27 : decode cX10_move 27 = .ok (.aload_n 0, 1) := by decide +kernel
theorem dX10_move_28 : decode cX10_move 28 = .ok (.getfield 30, 3) := by decide +kernel
theorem dX10_move_31 : decode cX10_move 31 = .ok (.iload_n 1, 1) := by decide +kernel
theorem dX10_move_32 : decode cX10_move 32 = .ok (.iaload, 1) := by decide +kernel
theorem dX10_move_33 : decode cX10_move 33 = .ok (.iload_n 2, 1) := by decide +kernel
theorem dX10_move_34 : decode cX10_move 34 = .ok (.if_icmp .ne 9, 3) := by decide +kernel
theorem dX10_move_37 : decode cX10_move 37 = .ok (.aload_n 0, 1) := by decide +kernel
theorem dX10_move_38 : decode cX10_move 38 = .ok (.iconst 2, 1) := by decide +kernel
theorem dX10_move_39 : decode cX10_move 39 = .ok (.invokevirtual 104, 3) := by decide +kernel
theorem dX10_move_42 : decode cX10_move 42 = .ok (.ireturn, 1) := by decide +kernel
theorem dX10_move_43 : decode cX10_move 43 = .ok (.aload_n 0, 1) := by decide +kernel
theorem dX10_move_44 : decode cX10_move 44 = .ok (.getfield 30, 3) := by decide +kernel
theorem dX10_move_47 : decode cX10_move 47 = .ok (.iload_n 1, 1) := by decide +kernel
theorem dX10_move_48 : decode cX10_move 48 = .ok (.iaload, 1) := by decide +kernel
theorem dX10_move_49 : decode cX10_move 49 = .ok (.istore_n 3, 1) := by decide +kernel
theorem dX10_move_50 : decode cX10_move 50 = .ok (.aload_n 0, 1) := by decide +kernel
theorem dX10_move_51 : decode cX10_move 51 = .ok (.getfield 30, 3) := by decide +kernel
theorem dX10_move_54 : decode cX10_move 54 = .ok (.iload_n 1, 1) := by decide +kernel
theorem dX10_move_55 : decode cX10_move 55 = .ok (.iload_n 2, 1) := by decide +kernel
theorem dX10_move_56 : decode cX10_move 56 = .ok (.iastore, 1) := by decide +kernel
theorem dX10_move_57 : decode cX10_move 57 = .ok (.iload_n 3, 1) := by decide +kernel
theorem dX10_move_58 : decode cX10_move 58 = .ok (.ireturn, 1) := by decide +kernel
theorem dX10_onRoll_0 : decode cX10_onRoll 0 = .ok (.iconst 0, 1) := by decide +kernel
theorem dX10_onRoll_1 : decode cX10_onRoll 1 = .ok (.istore_n 1, 1) := by decide +kernel
theorem dX10_onRoll_2 : decode cX10_onRoll 2 = .ok (.iconst 0, 1) := by decide +kernel
theorem dX10_onRoll_3 : decode cX10_onRoll 3 = .ok (.istore_n 2, 1) := by decide +kernel
theorem dX10_onRoll_4 : decode cX10_onRoll 4 = .ok (.iload_n 2, 1) := by decide +kernel
theorem dX10_onRoll_5 : decode cX10_onRoll 5 = .ok (.aload_n 0, 1) := by decide +kernel
theorem dX10_onRoll_6 : decode cX10_onRoll 6 = .ok (.getfield 95, 3) := by decide +kernel
theorem dX10_onRoll_9 : decode cX10_onRoll 9 = .ok (.if_icmp .ge 26, 3) := by decide +kernel
theorem dX10_onRoll_12 : decode cX10_onRoll 12 = .ok (.iload_n 1, 1) := by decide +kernel
theorem dX10_onRoll_13 : decode cX10_onRoll 13 = .ok (.aload_n 0, 1) := by decide +kernel
theorem dX10_onRoll_14 : decode cX10_onRoll 14 = .ok (.getfield 33, 3) := by decide +kernel
theorem dX10_onRoll_17 : decode cX10_onRoll 17 = .ok (.iload_n 2, 1) := by decide +kernel
theorem dX10_onRoll_18 : decode cX10_onRoll 18 = .ok (.baload, 1) := by decide +kernel
theorem dX10_onRoll_19 : decode cX10_onRoll 19 = .ok (.ifCond .eq 7, 3) := by decide +kernel
theorem dX10_onRoll_22 : decode cX10_onRoll 22 = .ok (.iconst 0, 1) := by decide +kernel
theorem dX10_onRoll_23 : decode cX10_onRoll 23 = .ok (.goto 4, 3) := by decide +kernel
theorem dX10_onRoll_26 : decode cX10_onRoll 26 = .ok (.iconst 1, 1) := by decide +kernel
theorem dX10_onRoll_27 : decode cX10_onRoll 27 = .ok (.iadd, 1) := by decide +kernel
theorem dX10_onRoll_28 : decode cX10_onRoll 28 = .ok (.istore_n 1, 1) := by decide +kernel
theorem dX10_onRoll_29 : decode cX10_onRoll 29 = .ok (.iinc 2 1, 3) := by decide +kernel
theorem dX10_onRoll_32 : decode cX10_onRoll 32 = .ok (.goto (-28), 3) := by decide +kernel
theorem dX10_onRoll_35 : decode cX10_onRoll 35 = .ok (.iload_n 1, 1) := by decide +kernel
theorem dX10_onRoll_36 : decode cX10_onRoll 36 = .ok (.ireturn, 1) := by decide +kernel
theorem dX10_turns_0 : decode cX10_turns 0 = .ok (.aload_n 0, 1) := by decide +kernel
theorem dX10_turns_1 : decode cX10_turns 1 = .ok (.iconst 0, 1) := by decide +kernel
theorem dX10_turns_2 : decode cX10_turns 2 = .ok (.putfield 85, 3) := by decide +kernel
theorem dX10_turns_5 : decode cX10_turns 5 = .ok (.aload_n 0, 1) := by decide +kernel
theorem dX10_turns_6 : decode cX10_turns 6 = .ok (.iload_n 1, 1) := by decide +kernel
theorem dX10_turns_7 : decode cX10_turns 7 = .ok (.invokevirtual 129, 3) := by decide +kernel
theorem dX10_turns_10 : decode cX10_turns 10 = .ok (.ifCond .ne 9, 3) := by decide +kernel
theorem dX10_turns_13 : decode cX10_turns 13 = .ok (.aload_n 0, 1) := by decide +kernel
theorem dX10_turns_14 : decode cX10_turns 14 = .ok (.iconst 1, 1) := by decide +kernel
theorem dX10_turns_15 : decode cX10_turns 15 = .ok (.invokevirtual 104, 3) := by decide +kernel
theorem dX10_turns_18 : decode cX10_turns 18 = .ok (.ireturn, 1) := by decide +kernel
theorem dX10_turns_19 : decode cX10_turns 19 = .ok (.aload_n 0, 1) := by decide +kernel
theorem dX10_turns_20 : decode cX10_turns 20 = .ok (.getfield 33, 3) := by decide +kernel
theorem dX10_turns_23 : decode cX10_turns 23 = .ok (.iload_n 1, 1) := by decide +kernel
theorem dX10_turns_24 : decode cX10_turns 24 = .ok (.baload, 1) := by decide +kernel
theorem dX10_turns_25 : decode cX10_turns 25 = .ok (.iload_n 2, 1) := by decide +kernel
theorem dX10_turns_26 : decode cX10_turns 26 = .ok (.if_icmp .ne 9, 3) := by decide +kernel
theorem dX10_turns_29 : decode cX10_turns 29 = .ok (.aload_n 0, 1) := by decide +kernel
theorem dX10_turns_30 : decode cX10_turns 30 = .ok (.iconst 2, 1) := by decide +kernel
theorem dX10_turns_31 : decode cX10_turns 31 = .ok (.invokevirtual 104, 3) := by decide +kernel
theorem dX10_turns_34 : decode cX10_turns 34 = .ok (.ireturn, 1) := by decide +kernel
theorem dX10_turns_35 : decode cX10_turns 35 = .ok (.aload_n 0, 1) := by decide +kernel
theorem dX10_turns_36 : decode cX10_turns 36 = .ok (.getfield 33, 3) := by decide +kernel
theorem dX10_turns_39 : decode cX10_turns 39 = .ok (.iload_n 1, 1) := by decide +kernel
theorem dX10_turns_40 : decode cX10_turns 40 = .ok (.iload_n 2, 1) := by decide +kernel
theorem dX10_turns_41 : decode cX10_turns 41 = .ok (.bastore, 1) := by decide +kernel
theorem dX10_turns_42 : decode cX10_turns 42 = .ok (.aload_n 0, 1) := by decide +kernel
theorem dX10_turns_43 : decode cX10_turns 43 = .ok (.invokevirtual 132, 3) := by decide +kernel
theorem dX10_turns_46 : decode cX10_turns 46 = .ok (.ireturn, 1) := by decide +kernel
theorem dX10_strike_0 : decode cX10_strike 0 = .ok (.aload_n 0, 1) := by decide +kernel
theorem dX10_strike_1 : decode cX10_strike 1 = .ok (.iload_n 1, 1) := by decide +kernel
theorem dX10_strike_2 : decode cX10_strike 2 = .ok (.iconst 1, 1) := by decide +kernel
theorem dX10_strike_3 : decode cX10_strike 3 = .ok (.invokevirtual 136, 3) := by decide +kernel
theorem dX10_strike_6 : decode cX10_strike 6 = .ok (.ireturn, 1) := by decide +kernel
theorem dX10_restore_0 : decode cX10_restore 0 = .ok (.aload_n 0, 1) := by decide +kernel
theorem dX10_restore_1 : decode cX10_restore 1 = .ok (.iload_n 1, 1) := by decide +kernel
theorem dX10_restore_2 : decode cX10_restore 2 = .ok (.iconst 0, 1) := by decide +kernel
theorem dX10_restore_3 : decode cX10_restore 3 = .ok (.invokevirtual 136, 3) := by decide +kernel
theorem dX10_restore_6 : decode cX10_restore 6 = .ok (.ireturn, 1) := by decide +kernel
theorem dX10_areaOf_0 : decode cX10_areaOf 0 = .ok (.aload_n 0, 1) := by decide +kernel
theorem dX10_areaOf_1 : decode cX10_areaOf 1 = .ok (.iconst 0, 1) := by decide +kernel
theorem dX10_areaOf_2 : decode cX10_areaOf 2 = .ok (.putfield 85, 3) := by decide +kernel
theorem dX10_areaOf_5 : decode cX10_areaOf 5 = .ok (.aload_n 0, 1) := by decide +kernel
theorem dX10_areaOf_6 : decode cX10_areaOf 6 = .ok (.iload_n 1, 1) := by decide +kernel
theorem dX10_areaOf_7 : decode cX10_areaOf 7 = .ok (.invokevirtual 129, 3) := by decide +kernel
theorem dX10_areaOf_10 : decode cX10_areaOf 10 = .ok (.ifCond .eq 12, 3) := by decide +kernel
theorem dX10_areaOf_13 : decode cX10_areaOf 13 = .ok (.aload_n 0, 1) := by decide +kernel
theorem dX10_areaOf_14 : decode cX10_areaOf 14 = .ok (.getfield 30, 3) := by decide +kernel
theorem dX10_areaOf_17 : decode cX10_areaOf 17 = .ok (.iload_n 1, 1) := by decide +kernel
theorem dX10_areaOf_18 : decode cX10_areaOf 18 = .ok (.iaload, 1) := by decide +kernel
theorem dX10_areaOf_19 : decode cX10_areaOf 19 = .ok (.goto 8, 3) := by decide +kernel
theorem dX10_areaOf_22 : decode cX10_areaOf 22 = .ok (.aload_n 0, 1) := by decide +kernel
theorem dX10_areaOf_23 : decode cX10_areaOf 23 = .ok (.iconst 1, 1) := by decide +kernel
theorem dX10_areaOf_24 : decode cX10_areaOf 24 = .ok (.invokevirtual 104, 3) := by decide +kernel
theorem dX10_areaOf_27 : decode cX10_areaOf 27 = .ok (.ireturn, 1) := by decide +kernel
theorem dX10_isOnRoll_0 : decode cX10_isOnRoll 0 = .ok (.aload_n 0, 1) := by decide +kernel
theorem dX10_isOnRoll_1 : decode cX10_isOnRoll 1 = .ok (.iconst 0, 1) := by decide +kernel
theorem dX10_isOnRoll_2 : decode cX10_isOnRoll 2 = .ok (.putfield 85, 3) := by decide +kernel
theorem dX10_isOnRoll_5 : decode cX10_isOnRoll 5 = .ok (.aload_n 0, 1) := by decide +kernel
theorem dX10_isOnRoll_6 : decode cX10_isOnRoll 6 = .ok (.iload_n 1, 1) := by decide +kernel
theorem dX10_isOnRoll_7 : decode cX10_isOnRoll 7 = .ok (.invokevirtual 129, 3) := by decide +kernel
theorem dX10_isOnRoll_10 : decode cX10_isOnRoll 10 = .ok (.ifCond .ne 10, 3) := by decide +kernel
theorem dX10_isOnRoll_13 : decode cX10_isOnRoll 13 = .ok (.aload_n 0, 1) := by decide +kernel
theorem dX10_isOnRoll_14 : decode cX10_isOnRoll 14 = .ok (.iconst 1, 1) := by decide +kernel
theorem dX10_isOnRoll_15 : decode cX10_isOnRoll 15 = .ok (.putfield 85, 3) := by decide +kernel
theorem dX10_isOnRoll_18 : decode cX10_isOnRoll 18 = .ok (.iconst 0, 1) := by decide +kernel
theorem dX10_isOnRoll_19 : decode cX10_isOnRoll 19 = .ok (.ireturn, 1) := by decide +kernel
theorem dX10_isOnRoll_20 : decode cX10_isOnRoll 20 = .ok (.aload_n 0, 1) := by decide +kernel
theorem dX10_isOnRoll_21 : decode cX10_isOnRoll 21 = .ok (.getfield 33, 3) := by decide +kernel
theorem dX10_isOnRoll_24 : decode cX10_isOnRoll 24 = .ok (.iload_n 1, 1) := by decide +kernel
theorem dX10_isOnRoll_25 : decode cX10_isOnRoll 25 = .ok (.baload, 1) := by decide +kernel
theorem dX10_isOnRoll_26 : decode cX10_isOnRoll 26 = .ok (.ifCond .ne 7, 3) := by decide +kernel
theorem dX10_isOnRoll_29 : decode cX10_isOnRoll 29 = .ok (.iconst 1, 1) := by decide +kernel
theorem dX10_isOnRoll_30 : decode cX10_isOnRoll 30 = .ok (.goto 4, 3) := by decide +kernel
theorem dX10_isOnRoll_33 : decode cX10_isOnRoll 33 = .ok (.iconst 0, 1) := by decide +kernel
theorem dX10_isOnRoll_34 : decode cX10_isOnRoll 34 = .ok (.ireturn, 1) := by decide +kernel
theorem dX10_isLetter_0 : decode cX10_isLetter 0 = .ok (.iload_n 0, 1) := by decide +kernel
theorem dX10_isLetter_1 : decode cX10_isLetter 1 = .ok (.bipush 97, 2) := by decide +kernel
theorem dX10_isLetter_3 : decode cX10_isLetter 3 = .ok (.if_icmp .lt 13, 3) := by decide +kernel
theorem dX10_isLetter_6 : decode cX10_isLetter 6 = .ok (.iload_n 0, 1) := by decide +kernel
theorem dX10_isLetter_7 : decode cX10_isLetter 7 = .ok (.bipush 122, 2) := by decide +kernel
theorem dX10_isLetter_9 : decode cX10_isLetter 9 = .ok (.if_icmp .gt 7, 3) := by decide +kernel
theorem dX10_isLetter_12 : decode cX10_isLetter 12 = .ok (.iconst 1, 1) := by decide +kernel
theorem dX10_isLetter_13 : decode cX10_isLetter 13 = .ok (.goto 4, 3) := by decide +kernel
theorem dX10_isLetter_16 : decode cX10_isLetter 16 = .ok (.iconst 0, 1) := by decide +kernel
theorem dX10_isLetter_17 : decode cX10_isLetter 17 = .ok (.ireturn, 1) := by decide +kernel
theorem dX10_isSurname_0 : decode cX10_isSurname 0 = .ok (.iload_n 0, 1) := by decide +kernel
theorem dX10_isSurname_1 : decode cX10_isSurname 1 = .ok (.invokestatic 140, 3) := by decide +kernel
theorem dX10_isSurname_4 : decode cX10_isSurname 4 = .ok (.ifCond .eq 58, 3) := by decide +kernel
theorem dX10_isSurname_7 : decode cX10_isSurname 7 = .ok (.iload_n 1, 1) := by decide +kernel
theorem dX10_isSurname_8 : decode cX10_isSurname 8 = .ok (.invokestatic 140, 3) := by decide +kernel
theorem dX10_isSurname_11 : decode cX10_isSurname 11 = .ok (.ifCond .ne 15, 3) := by decide +kernel
theorem dX10_isSurname_14 : decode cX10_isSurname 14 = .ok (.iload_n 1, 1) := by decide +kernel
theorem dX10_isSurname_15 : decode cX10_isSurname 15 = .ok (.bipush 32, 2) := by decide +kernel
theorem dX10_isSurname_17 : decode cX10_isSurname 17 = .ok (.if_icmp .ne 45, 3) := by decide +kernel
theorem dX10_isSurname_20 : decode cX10_isSurname 20 = .ok (.iload_n 2, 1) := by decide +kernel
theorem dX10_isSurname_21 : decode cX10_isSurname 21 = .ok (.bipush 32, 2) := by decide +kernel
theorem dX10_isSurname_23 : decode cX10_isSurname 23 = .ok (.if_icmp .ne 39, 3) := by decide +kernel
theorem dX10_isSurname_26 : decode cX10_isSurname 26 = .ok (.iload_n 2, 1) := by decide +kernel
theorem dX10_isSurname_27 : decode cX10_isSurname 27 = .ok (.invokestatic 140, 3) := by decide +kernel
theorem dX10_isSurname_30 : decode cX10_isSurname 30 = .ok (.ifCond .ne 15, 3) := by decide +kernel
theorem dX10_isSurname_33 : decode cX10_isSurname 33 = .ok (.iload_n 2, 1) := by decide +kernel
theorem dX10_isSurname_34 : decode cX10_isSurname 34 = .ok (.bipush 32, 2) := by decide +kernel
theorem dX10_isSurname_36 : decode cX10_isSurname 36 = .ok (.if_icmp .ne 26, 3) := by decide +kernel
theorem dX10_isSurname_39 : decode cX10_isSurname 39 = .ok (.iload_n 3, 1) := by decide +kernel
theorem dX10_isSurname_40 : decode cX10_isSurname 40 = .ok (.bipush 32, 2) := by decide +kernel
theorem dX10_isSurname_42 : decode cX10_isSurname 42 = .ok (.if_icmp .ne 20, 3) := by decide +kernel
theorem dX10_isSurname_45 : decode cX10_isSurname 45 = .ok (.iload_n 3, 1) := by decide +kernel
theorem dX10_isSurname_46 : decode cX10_isSurname 46 = .ok (.invokestatic 140, 3) := by decide +kernel
theorem dX10_isSurname_49 : decode cX10_isSurname 49 = .ok (.ifCond .ne 9, 3) := by decide +kernel
theorem dX10_isSurname_52 : decode cX10_isSurname 52 = .ok (.iload_n 3, 1) := by decide +kernel
theorem dX10_isSurname_53 : decode cX10_isSurname 53 = .ok (.bipush 32, 2) := by decide +kernel
theorem dX10_isSurname_55 : decode cX10_isSurname 55 = .ok (.if_icmp .ne 7, 3) := by decide +kernel
theorem dX10_isSurname_58 : decode cX10_isSurname 58 = .ok (.iconst 1, 1) := by decide +kernel
theorem dX10_isSurname_59 : decode cX10_isSurname 59 = .ok (.goto 4, 3) := by decide +kernel
theorem dX10_isSurname_62 : decode cX10_isSurname 62 = .ok (.iconst 0, 1) := by decide +kernel
theorem dX10_isSurname_63 : decode cX10_isSurname 63 = .ok (.ireturn, 1) := by decide +kernel
theorem dX10_writeName_0 : decode cX10_writeName 0 = .ok (.aload_n 0, 1) := by decide +kernel
theorem dX10_writeName_1 : decode cX10_writeName 1 = .ok (.getfield 42, 3) := by decide +kernel
theorem dX10_writeName_4 : decode cX10_writeName 4 = .ok (.iconst 4, 1) := by decide +kernel
theorem dX10_writeName_5 : decode cX10_writeName 5 = .ok (.iload_n 1, 1) := by decide +kernel
theorem dX10_writeName_6 : decode cX10_writeName 6 = .ok (.imul, 1) := by decide +kernel
theorem dX10_writeName_7 : decode cX10_writeName 7 = .ok (.iload_n 2, 1) := by decide +kernel
theorem dX10_writeName_8 : decode cX10_writeName 8 = .ok (.castore, 1) := by decide +kernel
theorem dX10_writeName_9 : decode cX10_writeName 9 = .ok (.aload_n 0, 1) := by decide +kernel
theorem dX10_writeName_10 : decode cX10_writeName 10 = .ok (.getfield 42, 3) := by decide +kernel
theorem dX10_writeName_13 : decode cX10_writeName 13 = .ok (.iconst 4, 1) := by decide +kernel
theorem dX10_writeName_14 : decode cX10_writeName 14 = .ok (.iload_n 1, 1) := by decide +kernel
theorem dX10_writeName_15 : decode cX10_writeName 15 = .ok (.imul, 1) := by decide +kernel
theorem dX10_writeName_16 : decode cX10_writeName 16 = .ok (.iconst 1, 1) := by decide +kernel
theorem dX10_writeName_17 : decode cX10_writeName 17 = .ok (.iadd, 1) := by decide +kernel
theorem dX10_writeName_18 : decode cX10_writeName 18 = .ok (.iload_n 3, 1) := by decide +kernel
theorem dX10_writeName_19 : decode cX10_writeName 19 = .ok (.castore, 1) := by decide +kernel
theorem dX10_writeName_20 : decode cX10_writeName 20 = .ok (.aload_n 0, 1) := by decide +kernel
theorem dX10_writeName_21 : decode cX10_writeName 21 = .ok (.getfield 42, 3) := by decide +kernel
theorem dX10_writeName_24 : decode cX10_writeName 24 = .ok (.iconst 4, 1) := by decide +kernel
theorem dX10_writeName_25 : decode cX10_writeName 25 = .ok (.iload_n 1, 1) := by decide +kernel
theorem dX10_writeName_26 : decode cX10_writeName 26 = .ok (.imul, 1) := by decide +kernel
theorem dX10_writeName_27 : decode cX10_writeName 27 = .ok (.iconst 2, 1) := by decide +kernel
theorem dX10_writeName_28 : decode cX10_writeName 28 = .ok (.iadd, 1) := by decide +kernel
theorem dX10_writeName_29 : decode cX10_writeName 29 = .ok (.iload 4, 2) := by decide +kernel
theorem dX10_writeName_31 : decode cX10_writeName 31 = .ok (.castore, 1) := by decide +kernel
theorem dX10_writeName_32 : decode cX10_writeName 32 = .ok (.aload_n 0, 1) := by decide +kernel
theorem dX10_writeName_33 : decode cX10_writeName 33 = .ok (.getfield 42, 3) := by decide +kernel
theorem dX10_writeName_36 : decode cX10_writeName 36 = .ok (.iconst 4, 1) := by decide +kernel
theorem dX10_writeName_37 : decode cX10_writeName 37 = .ok (.iload_n 1, 1) := by decide +kernel
theorem dX10_writeName_38 : decode cX10_writeName 38 = .ok (.imul, 1) := by decide +kernel
theorem dX10_writeName_39 : decode cX10_writeName 39 = .ok (.iconst 3, 1) := by decide +kernel
theorem dX10_writeName_40 : decode cX10_writeName 40 = .ok (.iadd, 1) := by decide +kernel
theorem dX10_writeName_41 : decode cX10_writeName 41 = .ok (.iload 5, 2) := by decide +kernel
theorem dX10_writeName_43 : decode cX10_writeName 43 = .ok (.castore, 1) := by decide +kernel
theorem dX10_writeName_44 : decode cX10_writeName 44 = .ok (.return_, 1) := by decide +kernel
theorem dX10_file_0 : decode cX10_file 0 = .ok (.aload_n 0, 1) := by decide +kernel
theorem dX10_file_1 : decode cX10_file 1 = .ok (.iconst 0, 1) := by decide +kernel
theorem dX10_file_2 : decode cX10_file 2 = .ok (.putfield 85, 3) := by decide +kernel
theorem dX10_file_5 : decode cX10_file 5 = .ok (.aload_n 0, 1) := by decide +kernel
theorem dX10_file_6 : decode cX10_file 6 = .ok (.iload_n 1, 1) := by decide +kernel
theorem dX10_file_7 : decode cX10_file 7 = .ok (.invokevirtual 125, 3) := by decide +kernel
theorem dX10_file_10 : decode cX10_file 10 = .ok (.ifCond .ne 9, 3) := by decide +kernel
theorem dX10_file_13 : decode cX10_file 13 = .ok (.aload_n 0, 1) := by decide +kernel
theorem dX10_file_14 : decode cX10_file 14 = .ok (.iconst 1, 1) := by decide +kernel
theorem dX10_file_15 : decode cX10_file 15 = .ok (.invokevirtual 104, 3) := by decide +kernel
theorem dX10_file_18 : decode cX10_file 18 = .ok (.ireturn, 1) := by decide +kernel
theorem dX10_file_19 : decode cX10_file 19 = .ok (.iload_n 2, 1) := by decide +kernel
theorem dX10_file_20 : decode cX10_file 20 = .ok (.iconst (-1), 1) := by decide +kernel
theorem dX10_file_21 : decode cX10_file 21 = .ok (.bipush 7, 2) := by decide +kernel
theorem dX10_file_23 : decode cX10_file 23 = .ok (.invokestatic 91, 3) := by decide +kernel
theorem dX10_file_26 : decode cX10_file 26 = .ok (.ifCond .eq 16, 3) := by decide +kernel
theorem dX10_file_29 : decode cX10_file 29 = .ok (.iload_n 3, 1) := by decide +kernel
theorem dX10_file_30 : decode cX10_file 30 = .ok (.iload 4, 2) := by decide +kernel
theorem dX10_file_32 : decode cX10_file 32 = .ok (.iload 5, 2) := by decide +kernel
theorem dX10_file_34 : decode cX10_file 34 = .ok (.iload 6, 2) := by decide +kernel
theorem dX10_file_36 : decode cX10_file 36 = .ok (.invokestatic 144, 3) := by decide +kernel
theorem dX10_file_39 : decode cX10_file 39 = .ok (.ifCond .ne 9, 3) := by decide +kernel
theorem dX10_file_42 : decode cX10_file 42 = .ok (.aload_n 0, 1) := by decide +kernel
theorem dX10_file_43 : decode cX10_file 43 = .ok (.iconst 2, 1) := by decide +kernel
theorem dX10_file_44 : decode cX10_file 44 = .ok (.invokevirtual 104, 3) := by decide +kernel
theorem dX10_file_47 : decode cX10_file 47 = .ok (.ireturn, 1) := by decide +kernel
theorem dX10_file_48 : decode cX10_file 48 = .ok (.aload_n 0, 1) := by decide +kernel
theorem dX10_file_49 : decode cX10_file 49 = .ok (.invokevirtual 108, 3) := by decide +kernel
theorem dX10_file_52 : decode cX10_file 52 = .ok (.ifCond .eq 12, 3) := by decide +kernel
theorem dX10_file_55 : decode cX10_file 55 = .ok (.aload_n 0, 1) := by decide +kernel
theorem dX10_file_56 : decode cX10_file 56 = .ok (.getfield 98, 3) := by decide +kernel
theorem dX10_file_59 : decode cX10_file 59 = .ok (.bipush 12, 2) := by decide +kernel
theorem dX10_file_61 : decode cX10_file 61 = .ok (.if_icmp .ne 9, 3) := by decide +kernel
theorem dX10_file_64 : decode cX10_file 64 = .ok (.aload_n 0, 1) := by decide +kernel
theorem dX10_file_65 : decode cX10_file 65 = .ok (.iconst 3, 1) := by decide +kernel
theorem dX10_file_66 : decode cX10_file 66 = .ok (.invokevirtual 104, 3) := by decide +kernel
theorem dX10_file_69 : decode cX10_file 69 = .ok (.ireturn, 1) := by decide +kernel
theorem dX10_file_70 : decode cX10_file 70 = .ok (.aload_n 0, 1) := by decide +kernel
theorem dX10_file_71 : decode cX10_file 71 = .ok (.getfield 36, 3) := by decide +kernel
theorem dX10_file_74 : decode cX10_file 74 = .ok (.aload_n 0, 1) := by decide +kernel
theorem dX10_file_75 : decode cX10_file 75 = .ok (.getfield 98, 3) := by decide +kernel
theorem dX10_file_78 : decode cX10_file 78 = .ok (.iload_n 1, 1) := by decide +kernel
theorem dX10_file_79 : decode cX10_file 79 = .ok (.iastore, 1) := by decide +kernel
theorem dX10_file_80 : decode cX10_file 80 = .ok (.aload_n 0, 1) := by decide +kernel
theorem dX10_file_81 : decode cX10_file 81 = .ok (.getfield 39, 3) := by decide +kernel
theorem dX10_file_84 : decode cX10_file 84 = .ok (.aload_n 0, 1) := by decide +kernel
theorem dX10_file_85 : decode cX10_file 85 = .ok (.getfield 98, 3) := by decide +kernel
theorem dX10_file_88 : decode cX10_file 88 = .ok (.iload_n 2, 1) := by decide +kernel
theorem dX10_file_89 : decode cX10_file 89 = .ok (.iastore, 1) := by decide +kernel
theorem dX10_file_90 : decode cX10_file 90 = .ok (.aload_n 0, 1) := by decide +kernel
theorem dX10_file_91 : decode cX10_file 91 = .ok (.aload_n 0, 1) := by decide +kernel
theorem dX10_file_92 : decode cX10_file 92 = .ok (.getfield 98, 3) := by decide +kernel
theorem dX10_file_95 : decode cX10_file 95 = .ok (.iload_n 3, 1) := by decide +kernel
theorem dX10_file_96 : decode cX10_file 96 = .ok (.iload 4, 2) := by decide +kernel
theorem dX10_file_98 : decode cX10_file 98 = .ok (.iload 5, 2) := by decide +kernel
theorem dX10_file_100 : decode cX10_file 100 = .ok (.iload 6, 2) := by decide +kernel
theorem dX10_file_102 : decode cX10_file 102 = .ok (.invokevirtual 148, 3) := by decide +kernel
theorem dX10_file_105 : decode cX10_file 105 = .ok (.aload_n 0, 1) := by decide +kernel
theorem dX10_file_106 : decode cX10_file 106 = .ok (.dup, 1) := by decide +kernel
theorem dX10_file_107 : decode cX10_file 107 = .ok (.getfield 98, 3) := by decide +kernel
theorem dX10_file_110 : decode cX10_file 110 = .ok (.iconst 1, 1) := by decide +kernel
theorem dX10_file_111 : decode cX10_file 111 = .ok (.iadd, 1) := by decide +kernel
theorem dX10_file_112 : decode cX10_file 112 = .ok (.putfield 98, 3) := by decide +kernel
theorem dX10_file_115 : decode cX10_file 115 = .ok (.aload_n 0, 1) := by decide +kernel
theorem dX10_file_116 : decode cX10_file 116 = .ok (.getfield 98, 3) := by decide +kernel
theorem dX10_file_119 : decode cX10_file 119 = .ok (.iconst 1, 1) := by decide +kernel
theorem dX10_file_120 : decode cX10_file 120 = .ok (.isub, 1) := by decide +kernel
theorem dX10_file_121 : decode cX10_file 121 = .ok (.ireturn, 1) := by decide +kernel
theorem dX10_sign_0 : decode cX10_sign 0 = .ok (.aload_n 0, 1) := by decide +kernel
theorem dX10_sign_1 : decode cX10_sign 1 = .ok (.iconst 0, 1) := by decide +kernel
theorem dX10_sign_2 : decode cX10_sign 2 = .ok (.putfield 85, 3) := by decide +kernel
theorem dX10_sign_5 : decode cX10_sign 5 = .ok (.aload_n 0, 1) := by decide +kernel
theorem dX10_sign_6 : decode cX10_sign 6 = .ok (.iload_n 1, 1) := by decide +kernel
theorem dX10_sign_7 : decode cX10_sign 7 = .ok (.invokevirtual 152, 3) := by decide +kernel
theorem dX10_sign_10 : decode cX10_sign 10 = .ok (.ifCond .eq 11, 3) := by decide +kernel
theorem dX10_sign_13 : decode cX10_sign 13 = .ok (.aload_n 0, 1) := by decide +kernel
theorem dX10_sign_14 : decode cX10_sign 14 = .ok (.iload_n 2, 1) := by decide +kernel
theorem dX10_sign_15 : decode cX10_sign 15 = .ok (.invokevirtual 129, 3) := by decide +kernel
theorem dX10_sign_18 : decode cX10_sign 18 = .ok (.ifCond .ne 9, 3) := by decide +kernel
theorem dX10_sign_21 : decode cX10_sign 21 = .ok (.aload_n 0, 1) := by decide +kernel
theorem dX10_sign_22 : decode cX10_sign 22 = .ok (.iconst 1, 1) := by decide +kernel
theorem dX10_sign_23 : decode cX10_sign 23 = .ok (.invokevirtual 104, 3) := by decide +kernel
theorem dX10_sign_26 : decode cX10_sign 26 = .ok (.ireturn, 1) := by decide +kernel
theorem dX10_sign_27 : decode cX10_sign 27 = .ok (.aload_n 0, 1) := by decide +kernel
theorem dX10_sign_28 : decode cX10_sign 28 = .ok (.invokevirtual 108, 3) := by decide +kernel
theorem dX10_sign_31 : decode cX10_sign 31 = .ok (.ifCond .eq 22, 3) := by decide +kernel
theorem dX10_sign_34 : decode cX10_sign 34 = .ok (.aload_n 0, 1) := by decide +kernel
theorem dX10_sign_35 : decode cX10_sign 35 = .ok (.getfield 46, 3) := by decide +kernel
theorem dX10_sign_38 : decode cX10_sign 38 = .ok (.iload_n 1, 1) := by decide +kernel
theorem dX10_sign_39 : decode cX10_sign 39 = .ok (.iaload, 1) := by decide +kernel
theorem dX10_sign_40 : decode cX10_sign 40 = .ok (.ifCond .gt 13, 3) := by decide +kernel
theorem dX10_sign_43 : decode cX10_sign 43 = .ok (.aload_n 0, 1) := by decide +kernel
theorem dX10_sign_44 : decode cX10_sign 44 = .ok (.getfield 115, 3) := by decide +kernel
theorem dX10_sign_47 : decode cX10_sign 47 = .ok (.sipush 150, 3) := by decide +kernel
theorem dX10_sign_50 : decode cX10_sign 50 = .ok (.if_icmp .ne 9, 3) := by decide +kernel
theorem dX10_sign_53 : decode cX10_sign 53 = .ok (.aload_n 0, 1) := by decide +kernel
theorem dX10_sign_54 : decode cX10_sign 54 = .ok (.iconst 2, 1) := by decide +kernel
theorem dX10_sign_55 : decode cX10_sign 55 = .ok (.invokevirtual 104, 3) := by decide +kernel
theorem dX10_sign_58 : decode cX10_sign 58 = .ok (.ireturn, 1) := by decide +kernel
theorem dX10_sign_59 : decode cX10_sign 59 = .ok (.aload_n 0, 1) := by decide +kernel
theorem dX10_sign_60 : decode cX10_sign 60 = .ok (.getfield 64, 3) := by decide +kernel
theorem dX10_sign_63 : decode cX10_sign 63 = .ok (.aload_n 0, 1) := by decide +kernel
theorem dX10_sign_64 : decode cX10_sign 64 = .ok (.getfield 115, 3) := by decide +kernel
theorem dX10_sign_67 : decode cX10_sign 67 = .ok (.iload_n 1, 1) := by decide +kernel
theorem dX10_sign_68 : decode cX10_sign 68 = .ok (.iastore, 1) := by decide +kernel
theorem dX10_sign_69 : decode cX10_sign 69 = .ok (.aload_n 0, 1) := by decide +kernel
theorem dX10_sign_70 : decode cX10_sign 70 = .ok (.getfield 67, 3) := by decide +kernel
theorem dX10_sign_73 : decode cX10_sign 73 = .ok (.aload_n 0, 1) := by decide +kernel
theorem dX10_sign_74 : decode cX10_sign 74 = .ok (.getfield 115, 3) := by decide +kernel
theorem dX10_sign_77 : decode cX10_sign 77 = .ok (.iload_n 2, 1) := by decide +kernel
theorem dX10_sign_78 : decode cX10_sign 78 = .ok (.iastore, 1) := by decide +kernel
theorem dX10_sign_79 : decode cX10_sign 79 = .ok (.aload_n 0, 1) := by decide +kernel
theorem dX10_sign_80 : decode cX10_sign 80 = .ok (.getfield 70, 3) := by decide +kernel
theorem dX10_sign_83 : decode cX10_sign 83 = .ok (.aload_n 0, 1) := by decide +kernel
theorem dX10_sign_84 : decode cX10_sign 84 = .ok (.getfield 115, 3) := by decide +kernel
theorem dX10_sign_87 : decode cX10_sign 87 = .ok (.aload_n 0, 1) := by decide +kernel
theorem dX10_sign_88 : decode cX10_sign 88 = .ok (.getfield 33, 3) := by decide +kernel
theorem dX10_sign_91 : decode cX10_sign 91 = .ok (.iload_n 2, 1) := by decide +kernel
theorem dX10_sign_92 : decode cX10_sign 92 = .ok (.baload, 1) := by decide +kernel
theorem dX10_sign_93 : decode cX10_sign 93 = .ok (.ifCond .ne 22, 3) := by decide +kernel
theorem dX10_sign_96 : decode cX10_sign 96 = .ok (.aload_n 0, 1) := by decide +kernel
theorem dX10_sign_97 : decode cX10_sign 97 = .ok (.getfield 30, 3) := by decide +kernel
theorem dX10_sign_100 : decode cX10_sign 100 = .ok (.iload_n 2, 1) := by decide +kernel
theorem dX10_sign_101 : decode cX10_sign 101 = .ok (.iaload, 1) := by decide +kernel
theorem dX10_sign_102 : decode cX10_sign 102 = .ok (.aload_n 0, 1) := by decide +kernel
theorem dX10_sign_103 : decode cX10_sign 103 = .ok (.getfield 36, 3) := by decide +kernel
theorem dX10_sign_106 : decode cX10_sign 106 = .ok (.iload_n 1, 1) := by decide +kernel
theorem dX10_sign_107 : decode cX10_sign 107 = .ok (.iaload, 1) := by decide +kernel
theorem dX10_sign_108 : decode cX10_sign 108 = .ok (.if_icmp .ne 7, 3) := by decide +kernel
theorem dX10_sign_111 : decode cX10_sign 111 = .ok (.iconst 1, 1) := by decide +kernel
theorem dX10_sign_112 : decode cX10_sign 112 = .ok (.goto 4, 3) := by decide +kernel
theorem dX10_sign_115 : decode cX10_sign 115 = .ok (.iconst 0, 1) := by decide +kernel
theorem dX10_sign_116 : decode cX10_sign 116 = .ok (.bastore, 1) := by decide +kernel
theorem dX10_sign_117 : decode cX10_sign 117 = .ok (.aload_n 0, 1) := by decide +kernel
theorem dX10_sign_118 : decode cX10_sign 118 = .ok (.dup, 1) := by decide +kernel
theorem dX10_sign_119 : decode cX10_sign 119 = .ok (.getfield 115, 3) := by decide +kernel
theorem dX10_sign_122 : decode cX10_sign 122 = .ok (.iconst 1, 1) := by decide +kernel
theorem dX10_sign_123 : decode cX10_sign 123 = .ok (.iadd, 1) := by decide +kernel
theorem dX10_sign_124 : decode cX10_sign 124 = .ok (.putfield 115, 3) := by decide +kernel
theorem dX10_sign_127 : decode cX10_sign 127 = .ok (.aload_n 0, 1) := by decide +kernel
theorem dX10_sign_128 : decode cX10_sign 128 = .ok (.getfield 115, 3) := by decide +kernel
theorem dX10_sign_131 : decode cX10_sign 131 = .ok (.iconst 1, 1) := by decide +kernel
theorem dX10_sign_132 : decode cX10_sign 132 = .ok (.isub, 1) := by decide +kernel
theorem dX10_sign_133 : decode cX10_sign 133 = .ok (.ireturn, 1) := by decide +kernel
theorem dX10_pay_0 : decode cX10_pay 0 = .ok (.aload_n 0, 1) := by decide +kernel
theorem dX10_pay_1 : decode cX10_pay 1 = .ok (.iconst 0, 1) := by decide +kernel
theorem dX10_pay_2 : decode cX10_pay 2 = .ok (.putfield 85, 3) := by decide +kernel
theorem dX10_pay_5 : decode cX10_pay 5 = .ok (.aload_n 0, 1) := by decide +kernel
theorem dX10_pay_6 : decode cX10_pay 6 = .ok (.iload_n 1, 1) := by decide +kernel
theorem dX10_pay_7 : decode cX10_pay 7 = .ok (.invokevirtual 152, 3) := by decide +kernel
theorem dX10_pay_10 : decode cX10_pay 10 = .ok (.ifCond .ne 9, 3) := by decide +kernel
theorem dX10_pay_13 : decode cX10_pay 13 = .ok (.aload_n 0, 1) := by decide +kernel
theorem dX10_pay_14 : decode cX10_pay 14 = .ok (.iconst 1, 1) := by decide +kernel
theorem dX10_pay_15 : decode cX10_pay 15 = .ok (.invokevirtual 104, 3) := by decide +kernel
theorem dX10_pay_18 : decode cX10_pay 18 = .ok (.ireturn, 1) := by decide +kernel
theorem dX10_pay_19 : decode cX10_pay 19 = .ok (.iload_n 2, 1) := by decide +kernel
theorem dX10_pay_20 : decode cX10_pay 20 = .ok (.iconst 1, 1) := by decide +kernel
theorem dX10_pay_21 : decode cX10_pay 21 = .ok (.sipush 1000, 3) := by decide +kernel
theorem dX10_pay_24 : decode cX10_pay 24 = .ok (.invokestatic 91, 3) := by decide +kernel
theorem dX10_pay_27 : decode cX10_pay 27 = .ok (.ifCond .ne 9, 3) := by decide +kernel
theorem dX10_pay_30 : decode cX10_pay 30 = .ok (.aload_n 0, 1) := by decide +kernel
theorem dX10_pay_31 : decode cX10_pay 31 = .ok (.iconst 2, 1) := by decide +kernel
theorem dX10_pay_32 : decode cX10_pay 32 = .ok (.invokevirtual 104, 3) := by decide +kernel
theorem dX10_pay_35 : decode cX10_pay 35 = .ok (.ireturn, 1) := by decide +kernel
theorem dX10_pay_36 : decode cX10_pay 36 = .ok (.aload_n 0, 1) := by decide +kernel
theorem dX10_pay_37 : decode cX10_pay 37 = .ok (.invokevirtual 108, 3) := by decide +kernel
theorem dX10_pay_40 : decode cX10_pay 40 = .ok (.ifCond .eq 12, 3) := by decide +kernel
theorem dX10_pay_43 : decode cX10_pay 43 = .ok (.aload_n 0, 1) := by decide +kernel
theorem dX10_pay_44 : decode cX10_pay 44 = .ok (.getfield 46, 3) := by decide +kernel
theorem dX10_pay_47 : decode cX10_pay 47 = .ok (.iload_n 1, 1) := by decide +kernel
theorem dX10_pay_48 : decode cX10_pay 48 = .ok (.iaload, 1) := by decide +kernel
theorem dX10_pay_49 : decode cX10_pay 49 = .ok (.ifCond .le 9, 3) := by decide +kernel
theorem dX10_pay_52 : decode cX10_pay 52 = .ok (.aload_n 0, 1) := by decide +kernel
theorem dX10_pay_53 : decode cX10_pay 53 = .ok (.iconst 3, 1) := by decide +kernel
theorem dX10_pay_54 : decode cX10_pay 54 = .ok (.invokevirtual 104, 3) := by decide +kernel
theorem dX10_pay_57 : decode cX10_pay 57 = .ok (.ireturn, 1) := by decide +kernel
theorem dX10_pay_58 : decode cX10_pay 58 = .ok (.aload_n 0, 1) := by decide +kernel
theorem dX10_pay_59 : decode cX10_pay 59 = .ok (.getfield 49, 3) := by decide +kernel
theorem dX10_pay_62 : decode cX10_pay 62 = .ok (.iload_n 1, 1) := by decide +kernel
theorem dX10_pay_63 : decode cX10_pay 63 = .ok (.dup2, 1) := by decide +kernel
theorem dX10_pay_64 : decode cX10_pay 64 = .ok (.iaload, 1) := by decide +kernel
theorem dX10_pay_65 : decode cX10_pay 65 = .ok (.iload_n 2, 1) := by decide +kernel
theorem dX10_pay_66 : decode cX10_pay 66 = .ok (.iadd, 1) := by decide +kernel
theorem dX10_pay_67 : decode cX10_pay 67 = .ok (.iastore, 1) := by decide +kernel
theorem dX10_pay_68 : decode cX10_pay 68 = .ok (.aload_n 0, 1) := by decide +kernel
theorem dX10_pay_69 : decode cX10_pay 69 = .ok (.getfield 49, 3) := by decide +kernel
theorem dX10_pay_72 : decode cX10_pay 72 = .ok (.iload_n 1, 1) := by decide +kernel
theorem dX10_pay_73 : decode cX10_pay 73 = .ok (.iaload, 1) := by decide +kernel
theorem dX10_pay_74 : decode cX10_pay 74 = .ok (.ireturn, 1) := by decide +kernel
theorem dX10_isRejected_0 : decode cX10_isRejected 0 = .ok (.aload_n 0, 1) := by decide +kernel
theorem dX10_isRejected_1 : decode cX10_isRejected 1 = .ok (.invokevirtual 108, 3) := by decide +kernel
theorem dX10_isRejected_4 : decode cX10_isRejected 4 = .ok (.ifCond .ne 26, 3) := by decide +kernel
theorem dX10_isRejected_7 : decode cX10_isRejected 7 = .ok (.aload_n 0, 1) := by decide +kernel
theorem dX10_isRejected_8 : decode cX10_isRejected 8 = .ok (.getfield 46, 3) := by decide +kernel
theorem dX10_isRejected_11 : decode cX10_isRejected 11 = .ok (.iload_n 1, 1) := by decide +kernel
theorem dX10_isRejected_12 : decode cX10_isRejected 12 = .ok (.iaload, 1) := by decide +kernel
theorem dX10_isRejected_13 : decode cX10_isRejected 13 = .ok (.iconst 1, 1) := by decide +kernel
theorem dX10_isRejected_14 : decode cX10_isRejected 14 = .ok (.if_icmp .eq 16, 3) := by decide +kernel
theorem dX10_isRejected_17 : decode cX10_isRejected 17 = .ok (.aload_n 0, 1) := by decide +kernel
theorem dX10_isRejected_18 : decode cX10_isRejected 18 = .ok (.getfield 61, 3) := by decide +kernel
theorem dX10_isRejected_21 : decode cX10_isRejected 21 = .ok (.iload_n 1, 1) := by decide +kernel
theorem dX10_isRejected_22 : decode cX10_isRejected 22 = .ok (.iaload, 1) := by decide +kernel
theorem dX10_isRejected_23 : decode cX10_isRejected 23 = .ok (.ifCond .le 7, 3) := by decide +kernel
theorem dX10_isRejected_26 : decode cX10_isRejected 26 = .ok (.iconst 1, 1) := by decide +kernel
theorem dX10_isRejected_27 : decode cX10_isRejected 27 = .ok (.goto 4, 3) := by decide +kernel
theorem dX10_isRejected_30 : decode cX10_isRejected 30 = .ok (.iconst 0, 1) := by decide +kernel
theorem dX10_isRejected_31 : decode cX10_isRejected 31 = .ok (.ireturn, 1) := by decide +kernel
theorem dX10_withdraw_0 : decode cX10_withdraw 0 = .ok (.aload_n 0, 1) := by decide +kernel
theorem dX10_withdraw_1 : decode cX10_withdraw 1 = .ok (.iconst 0, 1) := by decide +kernel
theorem dX10_withdraw_2 : decode cX10_withdraw 2 = .ok (.putfield 85, 3) := by decide +kernel
theorem dX10_withdraw_5 : decode cX10_withdraw 5 = .ok (.aload_n 0, 1) := by decide +kernel
theorem dX10_withdraw_6 : decode cX10_withdraw 6 = .ok (.iload_n 1, 1) := by decide +kernel
theorem dX10_withdraw_7 : decode cX10_withdraw 7 = .ok (.invokevirtual 152, 3) := by decide +kernel
theorem dX10_withdraw_10 : decode cX10_withdraw 10 = .ok (.ifCond .ne 9, 3) := by decide +kernel
theorem dX10_withdraw_13 : decode cX10_withdraw 13 = .ok (.aload_n 0, 1) := by decide +kernel
theorem dX10_withdraw_14 : decode cX10_withdraw 14 = .ok (.iconst 1, 1) := by decide +kernel
theorem dX10_withdraw_15 : decode cX10_withdraw 15 = .ok (.invokevirtual 104, 3) := by decide +kernel
theorem dX10_withdraw_18 : decode cX10_withdraw 18 = .ok (.ireturn, 1) := by decide +kernel
theorem dX10_withdraw_19 : decode cX10_withdraw 19 = .ok (.aload_n 0, 1) := by decide +kernel
theorem dX10_withdraw_20 : decode cX10_withdraw 20 = .ok (.getfield 46, 3) := by decide +kernel
theorem dX10_withdraw_23 : decode cX10_withdraw 23 = .ok (.iload_n 1, 1) := by decide +kernel
theorem dX10_withdraw_24 : decode cX10_withdraw 24 = .ok (.iaload, 1) := by decide +kernel
theorem dX10_withdraw_25 : decode cX10_withdraw 25 = .ok (.ifCond .gt 22, 3) := by decide +kernel
theorem dX10_withdraw_28 : decode cX10_withdraw 28 = .ok (.aload_n 0, 1) := by decide +kernel
theorem dX10_withdraw_29 : decode cX10_withdraw 29 = .ok (.iload_n 1, 1) := by decide +kernel
theorem dX10_withdraw_30 : decode cX10_withdraw 30 = .ok (.invokevirtual 155, 3) := by decide +kernel
theorem dX10_withdraw_33 : decode cX10_withdraw 33 = .ok (.ifCond .ne 14, 3) := by decide +kernel
theorem dX10_withdraw_36 : decode cX10_withdraw 36 = .ok (.aload_n 0, 1) := by decide +kernel
theorem dX10_withdraw_37 : decode cX10_withdraw 37 = .ok (.getfield 101, 3) := by decide +kernel
theorem dX10_withdraw_40 : decode cX10_withdraw 40 = .ok (.aload_n 0, 1) := by decide +kernel
theorem dX10_withdraw_41 : decode cX10_withdraw 41 = .ok (.getfield 13, 3) := by decide +kernel
theorem dX10_withdraw_44 : decode cX10_withdraw 44 = .ok (.if_icmp .le 9, 3) := by decide +kernel
theorem dX10_withdraw_47 : decode cX10_withdraw 47 = .ok (.aload_n 0, 1) := by decide +kernel
theorem dX10_withdraw_48 : decode cX10_withdraw 48 = .ok (.iconst 2, 1) := by decide +kernel
theorem dX10_withdraw_49 : decode cX10_withdraw 49 = .ok (.invokevirtual 104, 3) := by decide +kernel
theorem dX10_withdraw_52 : decode cX10_withdraw 52 = .ok (.ireturn, 1) := by decide +kernel
theorem dX10_withdraw_53 : decode cX10_withdraw 53 = .ok (.iconst 0, 1) := by decide +kernel
theorem dX10_withdraw_54 : decode cX10_withdraw 54 = .ok (.istore_n 2, 1) := by decide +kernel
theorem dX10_withdraw_55 : decode cX10_withdraw 55 = .ok (.aload_n 0, 1) := by decide +kernel
theorem dX10_withdraw_56 : decode cX10_withdraw 56 = .ok (.invokevirtual 108, 3) := by decide +kernel
theorem dX10_withdraw_59 : decode cX10_withdraw 59 = .ok (.ifCond .eq 57, 3) := by decide +kernel
theorem dX10_withdraw_62 : decode cX10_withdraw 62 = .ok (.iconst 0, 1) := by decide +kernel
theorem dX10_withdraw_63 : decode cX10_withdraw 63 = .ok (.istore_n 3, 1) := by decide +kernel
theorem dX10_withdraw_64 : decode cX10_withdraw 64 = .ok (.iload_n 3, 1) := by decide +kernel
theorem dX10_withdraw_65 : decode cX10_withdraw 65 = .ok (.aload_n 0, 1) := by decide +kernel
theorem dX10_withdraw_66 : decode cX10_withdraw 66 = .ok (.getfield 115, 3) := by decide +kernel
theorem dX10_withdraw_69 : decode cX10_withdraw 69 = .ok (.if_icmp .ge 47, 3) := by decide +kernel
theorem dX10_withdraw_72 : decode cX10_withdraw 72 = .ok (.iload_n 2, 1) := by decide +kernel
theorem dX10_withdraw_73 : decode cX10_withdraw 73 = .ok (.aload_n 0, 1) := by decide +kernel
theorem dX10_withdraw_74 : decode cX10_withdraw 74 = .ok (.getfield 64, 3) := by decide +kernel
theorem dX10_withdraw_77 : decode cX10_withdraw 77 = .ok (.iload_n 3, 1) := by decide +kernel
theorem dX10_withdraw_78 : decode cX10_withdraw 78 = .ok (.iaload, 1) := by decide +kernel
theorem dX10_withdraw_79 : decode cX10_withdraw 79 = .ok (.iload_n 1, 1) := by decide +kernel
theorem dX10_withdraw_80 : decode cX10_withdraw 80 = .ok (.if_icmp .eq 27, 3) := by decide +kernel
theorem dX10_withdraw_83 : decode cX10_withdraw 83 = .ok (.aload_n 0, 1) := by decide +kernel
theorem dX10_withdraw_84 : decode cX10_withdraw 84 = .ok (.iload_n 3, 1) := by decide +kernel
theorem dX10_withdraw_85 : decode cX10_withdraw 85 = .ok (.iconst 0, 1) := by decide +kernel
theorem dX10_withdraw_86 : decode cX10_withdraw 86 = .ok (.invokevirtual 118, 3) := by decide +kernel
theorem dX10_withdraw_89 : decode cX10_withdraw 89 = .ok (.ifCond .eq 18, 3) := by decide +kernel
theorem dX10_withdraw_92 : decode cX10_withdraw 92 = .ok (.aload_n 0, 1) := by decide +kernel
theorem dX10_withdraw_93 : decode cX10_withdraw 93 = .ok (.iload_n 3, 1) := by decide +kernel
theorem dX10_withdraw_94 : decode cX10_withdraw 94 = .ok (.iconst 1, 1) := by decide +kernel
theorem dX10_withdraw_95 : decode cX10_withdraw 95 = .ok (.iload_n 1, 1) := by decide +kernel
theorem dX10_withdraw_96 : decode cX10_withdraw 96 = .ok (.ishl, 1) := by decide +kernel
theorem dX10_withdraw_97 : decode cX10_withdraw 97 = .ok (.invokevirtual 118, 3) := by decide +kernel
theorem dX10_withdraw_100 : decode cX10_withdraw 100 = .ok (.ifCond .ne 7, 3) := by decide +kernel
theorem dX10_withdraw_103 : decode cX10_withdraw 103 = .ok (.iconst 1, 1) := by decide +kernel
theorem dX10_withdraw_104 : decode cX10_withdraw 104 = .ok (.goto 4, 3) := by decide +kernel
theorem dX10_withdraw_107 : decode cX10_withdraw 107 = .ok (.iconst 0, 1) := by decide +kernel
theorem dX10_withdraw_108 : decode cX10_withdraw 108 = .ok (.iadd, 1) := by decide +kernel
theorem dX10_withdraw_109 : decode cX10_withdraw 109 = .ok (.istore_n 2, 1) := by decide +kernel
theorem dX10_withdraw_110 : decode cX10_withdraw 110 = .ok (.iinc 3 1, 3) := by decide +kernel
theorem dX10_withdraw_113 : decode cX10_withdraw 113 = .ok (.goto (-49), 3) := by decide +kernel
theorem dX10_withdraw_116 : decode cX10_withdraw 116 = .ok (.aload_n 0, 1) := by decide +kernel
theorem dX10_withdraw_117 : decode cX10_withdraw 117 = .ok (.getfield 46, 3) := by decide +kernel
theorem dX10_withdraw_120 : decode cX10_withdraw 120 = .ok (.iload_n 1, 1) := by decide +kernel
theorem dX10_withdraw_121 : decode cX10_withdraw 121 = .ok (.aload_n 0, 1) := by decide +kernel
theorem dX10_withdraw_122 : decode cX10_withdraw 122 = .ok (.invokevirtual 108, 3) := by decide +kernel
theorem dX10_withdraw_125 : decode cX10_withdraw 125 = .ok (.ifCond .eq 7, 3) := by decide +kernel
theorem dX10_withdraw_128 : decode cX10_withdraw 128 = .ok (.iconst 1, 1) := by decide +kernel
theorem dX10_withdraw_129 : decode cX10_withdraw 129 = .ok (.goto 4, 3) := by decide +kernel
theorem dX10_withdraw_132 : decode cX10_withdraw 132 = .ok (.iconst 2, 1) := by decide +kernel
theorem dX10_withdraw_133 : decode cX10_withdraw 133 = .ok (.iastore, 1) := by decide +kernel
theorem dX10_withdraw_134 : decode cX10_withdraw 134 = .ok (.iload_n 2, 1) := by decide +kernel
theorem dX10_withdraw_135 : decode cX10_withdraw 135 = .ok (.ireturn, 1) := by decide +kernel
theorem dX10_canReplace_0 : decode cX10_canReplace 0 = .ok (.aload_n 0, 1) := by decide +kernel
theorem dX10_canReplace_1 : decode cX10_canReplace 1 = .ok (.getfield 39, 3) := by decide +kernel
theorem dX10_canReplace_4 : decode cX10_canReplace 4 = .ok (.iload_n 1, 1) := by decide +kernel
theorem dX10_canReplace_5 : decode cX10_canReplace 5 = .ok (.iaload, 1) := by decide +kernel
theorem dX10_canReplace_6 : decode cX10_canReplace 6 = .ok (.ifCond .lt 61, 3) := by decide +kernel
theorem dX10_canReplace_9 : decode cX10_canReplace 9 = .ok (.aload_n 0, 1) := by decide +kernel
theorem dX10_canReplace_10 : decode cX10_canReplace 10 = .ok (.getfield 46, 3) := by decide +kernel
theorem dX10_canReplace_13 : decode cX10_canReplace 13 = .ok (.iload_n 1, 1) := by decide +kernel
theorem dX10_canReplace_14 : decode cX10_canReplace 14 = .ok (.iaload, 1) := by decide +kernel
theorem dX10_canReplace_15 : decode cX10_canReplace 15 = .ok (.ifCond .ne 52, 3) := by decide +kernel
theorem dX10_canReplace_18 : decode cX10_canReplace 18 = .ok (.aload_n 0, 1) := by decide +kernel
theorem dX10_canReplace_19 : decode cX10_canReplace 19 = .ok (.iload_n 1, 1) := by decide +kernel
theorem dX10_canReplace_20 : decode cX10_canReplace 20 = .ok (.invokevirtual 155, 3) := by decide +kernel
theorem dX10_canReplace_23 : decode cX10_canReplace 23 = .ok (.ifCond .ne 44, 3) := by decide +kernel
theorem dX10_canReplace_26 : decode cX10_canReplace 26 = .ok (.aload_n 0, 1) := by decide +kernel
theorem dX10_canReplace_27 : decode cX10_canReplace 27 = .ok (.getfield 55, 3) := by decide +kernel
theorem dX10_canReplace_30 : decode cX10_canReplace 30 = .ok (.iload_n 1, 1) := by decide +kernel
theorem dX10_canReplace_31 : decode cX10_canReplace 31 = .ok (.iaload, 1) := by decide +kernel
theorem dX10_canReplace_32 : decode cX10_canReplace 32 = .ok (.iconst 2, 1) := by decide +kernel
theorem dX10_canReplace_33 : decode cX10_canReplace 33 = .ok (.if_icmp .ge 34, 3) := by decide +kernel
theorem dX10_canReplace_36 : decode cX10_canReplace 36 = .ok (.aload_n 0, 1) := by decide +kernel
theorem dX10_canReplace_37 : decode cX10_canReplace 37 = .ok (.getfield 101, 3) := by decide +kernel
theorem dX10_canReplace_40 : decode cX10_canReplace 40 = .ok (.aload_n 0, 1) := by decide +kernel
theorem dX10_canReplace_41 : decode cX10_canReplace 41 = .ok (.getfield 13, 3) := by decide +kernel
theorem dX10_canReplace_44 : decode cX10_canReplace 44 = .ok (.if_icmp .gt 23, 3) := by decide +kernel
theorem dX10_canReplace_47 : decode cX10_canReplace 47 = .ok (.aload_n 0, 1) := by decide +kernel
theorem dX10_canReplace_48 : decode cX10_canReplace 48 = .ok (.invokevirtual 108, 3) := by decide +kernel
theorem dX10_canReplace_51 : decode cX10_canReplace 51 = .ok (.ifCond .ne 12, 3) := by decide +kernel
theorem dX10_canReplace_54 : decode cX10_canReplace 54 = .ok (.aload_n 0, 1) := by decide +kernel
theorem dX10_canReplace_55 : decode cX10_canReplace 55 = .ok (.getfield 52, 3) := by decide +kernel
theorem dX10_canReplace_58 : decode cX10_canReplace 58 = .ok (.iload_n 1, 1) := by decide +kernel
theorem dX10_canReplace_59 : decode cX10_canReplace 59 = .ok (.baload, 1) := by decide +kernel
theorem dX10_canReplace_60 : decode cX10_canReplace 60 = .ok (.ifCond .eq 7, 3) := by decide +kernel
theorem dX10_canReplace_63 : decode cX10_canReplace 63 = .ok (.iconst 1, 1) := by decide +kernel
theorem dX10_canReplace_64 : decode cX10_canReplace 64 = .ok (.goto 4, 3) := by decide +kernel
theorem dX10_canReplace_67 : decode cX10_canReplace 67 = .ok (.iconst 0, 1) := by decide +kernel
theorem dX10_canReplace_68 : decode cX10_canReplace 68 = .ok (.ireturn, 1) := by decide +kernel
theorem dX10_die_0 : decode cX10_die 0 = .ok (.aload_n 0, 1) := by decide +kernel
theorem dX10_die_1 : decode cX10_die 1 = .ok (.iconst 0, 1) := by decide +kernel
theorem dX10_die_2 : decode cX10_die 2 = .ok (.putfield 85, 3) := by decide +kernel
theorem dX10_die_5 : decode cX10_die 5 = .ok (.aload_n 0, 1) := by decide +kernel
theorem dX10_die_6 : decode cX10_die 6 = .ok (.iload_n 1, 1) := by decide +kernel
theorem dX10_die_7 : decode cX10_die 7 = .ok (.invokevirtual 152, 3) := by decide +kernel
theorem dX10_die_10 : decode cX10_die 10 = .ok (.ifCond .ne 10, 3) := by decide +kernel
theorem dX10_die_13 : decode cX10_die 13 = .ok (.aload_n 0, 1) := by decide +kernel
theorem dX10_die_14 : decode cX10_die 14 = .ok (.iconst 1, 1) := by decide +kernel
theorem dX10_die_15 : decode cX10_die 15 = .ok (.putfield 85, 3) := by decide +kernel
theorem dX10_die_18 : decode cX10_die 18 = .ok (.iconst 0, 1) := by decide +kernel
theorem dX10_die_19 : decode cX10_die 19 = .ok (.ireturn, 1) := by decide +kernel
theorem dX10_die_20 : decode cX10_die 20 = .ok (.aload_n 0, 1) := by decide +kernel
theorem dX10_die_21 : decode cX10_die 21 = .ok (.getfield 46, 3) := by decide +kernel
theorem dX10_die_24 : decode cX10_die 24 = .ok (.iload_n 1, 1) := by decide +kernel
theorem dX10_die_25 : decode cX10_die 25 = .ok (.iaload, 1) := by decide +kernel
theorem dX10_die_26 : decode cX10_die 26 = .ok (.ifCond .gt 31, 3) := by decide +kernel
theorem dX10_die_29 : decode cX10_die 29 = .ok (.aload_n 0, 1) := by decide +kernel
theorem dX10_die_30 : decode cX10_die 30 = .ok (.iload_n 1, 1) := by decide +kernel
theorem dX10_die_31 : decode cX10_die 31 = .ok (.invokevirtual 155, 3) := by decide +kernel
theorem dX10_die_34 : decode cX10_die 34 = .ok (.ifCond .ne 23, 3) := by decide +kernel
theorem dX10_die_37 : decode cX10_die 37 = .ok (.aload_n 0, 1) := by decide +kernel
theorem dX10_die_38 : decode cX10_die 38 = .ok (.getfield 52, 3) := by decide +kernel
theorem dX10_die_41 : decode cX10_die 41 = .ok (.iload_n 1, 1) := by decide +kernel
theorem dX10_die_42 : decode cX10_die 42 = .ok (.baload, 1) := by decide +kernel
theorem dX10_die_43 : decode cX10_die 43 = .ok (.ifCond .ne 14, 3) := by decide +kernel
theorem dX10_die_46 : decode cX10_die 46 = .ok (.aload_n 0, 1) := by decide +kernel
theorem dX10_die_47 : decode cX10_die 47 = .ok (.getfield 101, 3) := by decide +kernel
theorem dX10_die_50 : decode cX10_die 50 = .ok (.aload_n 0, 1) := by decide +kernel
theorem dX10_die_51 : decode cX10_die 51 = .ok (.getfield 16, 3) := by decide +kernel
theorem dX10_die_54 : decode cX10_die 54 = .ok (.if_icmp .lt 10, 3) := by decide +kernel
theorem dX10_die_57 : decode cX10_die 57 = .ok (.aload_n 0, 1) := by decide +kernel
theorem dX10_die_58 : decode cX10_die 58 = .ok (.iconst 2, 1) := by decide +kernel
theorem dX10_die_59 : decode cX10_die 59 = .ok (.putfield 85, 3) := by decide +kernel
theorem dX10_die_62 : decode cX10_die 62 = .ok (.iconst 0, 1) := by decide +kernel
theorem dX10_die_63 : decode cX10_die 63 = .ok (.ireturn, 1) := by decide +kernel
theorem dX10_die_64 : decode cX10_die 64 = .ok (.aload_n 0, 1) := by decide +kernel
theorem dX10_die_65 : decode cX10_die 65 = .ok (.getfield 52, 3) := by decide +kernel
theorem dX10_die_68 : decode cX10_die 68 = .ok (.iload_n 1, 1) := by decide +kernel
theorem dX10_die_69 : decode cX10_die 69 = .ok (.iconst 1, 1) := by decide +kernel
theorem dX10_die_70 : decode cX10_die 70 = .ok (.bastore, 1) := by decide +kernel
theorem dX10_die_71 : decode cX10_die 71 = .ok (.aload_n 0, 1) := by decide +kernel
theorem dX10_die_72 : decode cX10_die 72 = .ok (.iload_n 1, 1) := by decide +kernel
theorem dX10_die_73 : decode cX10_die 73 = .ok (.invokevirtual 158, 3) := by decide +kernel
theorem dX10_die_76 : decode cX10_die 76 = .ok (.ireturn, 1) := by decide +kernel
theorem dX10_replace_0 : decode cX10_replace 0 = .ok (.aload_n 0, 1) := by decide +kernel
theorem dX10_replace_1 : decode cX10_replace 1 = .ok (.iconst 0, 1) := by decide +kernel
theorem dX10_replace_2 : decode cX10_replace 2 = .ok (.putfield 85, 3) := by decide +kernel
theorem dX10_replace_5 : decode cX10_replace 5 = .ok (.aload_n 0, 1) := by decide +kernel
theorem dX10_replace_6 : decode cX10_replace 6 = .ok (.iload_n 1, 1) := by decide +kernel
theorem dX10_replace_7 : decode cX10_replace 7 = .ok (.invokevirtual 152, 3) := by decide +kernel
theorem dX10_replace_10 : decode cX10_replace 10 = .ok (.ifCond .ne 9, 3) := by decide +kernel
theorem dX10_replace_13 : decode cX10_replace 13 = .ok (.aload_n 0, 1) := by decide +kernel
theorem dX10_replace_14 : decode cX10_replace 14 = .ok (.iconst 1, 1) := by decide +kernel
theorem dX10_replace_15 : decode cX10_replace 15 = .ok (.invokevirtual 104, 3) := by decide +kernel
theorem dX10_replace_18 : decode cX10_replace 18 = .ok (.ireturn, 1) := by decide +kernel
theorem dX10_replace_19 : decode cX10_replace 19 = .ok (.iload_n 2, 1) := by decide +kernel
theorem dX10_replace_20 : decode cX10_replace 20 = .ok (.iload_n 3, 1) := by decide +kernel
theorem dX10_replace_21 : decode cX10_replace 21 = .ok (.iload 4, 2) := by decide +kernel
theorem dX10_replace_23 : decode cX10_replace 23 = .ok (.iload 5, 2) := by decide +kernel
theorem dX10_replace_25 : decode cX10_replace 25 = .ok (.invokestatic 144, 3) := by decide +kernel
theorem dX10_replace_28 : decode cX10_replace 28 = .ok (.ifCond .ne 9, 3) := by decide +kernel
theorem dX10_replace_31 : decode cX10_replace 31 = .ok (.aload_n 0, 1) := by decide +kernel
theorem dX10_replace_32 : decode cX10_replace 32 = .ok (.iconst 2, 1) := by decide +kernel
theorem dX10_replace_33 : decode cX10_replace 33 = .ok (.invokevirtual 104, 3) := by decide +kernel
theorem dX10_replace_36 : decode cX10_replace 36 = .ok (.ireturn, 1) := by decide +kernel
theorem dX10_replace_37 : decode cX10_replace 37 = .ok (.aload_n 0, 1) := by decide +kernel
theorem dX10_replace_38 : decode cX10_replace 38 = .ok (.iload_n 1, 1) := by decide +kernel
theorem dX10_replace_39 : decode cX10_replace 39 = .ok (.invokevirtual 158, 3) := by decide +kernel
theorem dX10_replace_42 : decode cX10_replace 42 = .ok (.ifCond .ne 9, 3) := by decide +kernel
theorem dX10_replace_45 : decode cX10_replace 45 = .ok (.aload_n 0, 1) := by decide +kernel
theorem dX10_replace_46 : decode cX10_replace 46 = .ok (.iconst 3, 1) := by decide +kernel
theorem dX10_replace_47 : decode cX10_replace 47 = .ok (.invokevirtual 104, 3) := by decide +kernel
theorem dX10_replace_50 : decode cX10_replace 50 = .ok (.ireturn, 1) := by decide +kernel
theorem dX10_replace_51 : decode cX10_replace 51 = .ok (.aload_n 0, 1) := by decide +kernel
theorem dX10_replace_52 : decode cX10_replace 52 = .ok (.iload_n 1, 1) := by decide +kernel
theorem dX10_replace_53 : decode cX10_replace 53 = .ok (.iload_n 2, 1) := by decide +kernel
theorem dX10_replace_54 : decode cX10_replace 54 = .ok (.iload_n 3, 1) := by decide +kernel
theorem dX10_replace_55 : decode cX10_replace 55 = .ok (.iload 4, 2) := by decide +kernel
theorem dX10_replace_57 : decode cX10_replace 57 = .ok (.iload 5, 2) := by decide +kernel
theorem dX10_replace_59 : decode cX10_replace 59 = .ok (.invokevirtual 148, 3) := by decide +kernel
theorem dX10_replace_62 : decode cX10_replace 62 = .ok (.aload_n 0, 1) := by decide +kernel
theorem dX10_replace_63 : decode cX10_replace 63 = .ok (.getfield 52, 3) := by decide +kernel
theorem dX10_replace_66 : decode cX10_replace 66 = .ok (.iload_n 1, 1) := by decide +kernel
theorem dX10_replace_67 : decode cX10_replace 67 = .ok (.iconst 0, 1) := by decide +kernel
theorem dX10_replace_68 : decode cX10_replace 68 = .ok (.bastore, 1) := by decide +kernel
theorem dX10_replace_69 : decode cX10_replace 69 = .ok (.aload_n 0, 1) := by decide +kernel
theorem dX10_replace_70 : decode cX10_replace 70 = .ok (.getfield 55, 3) := by decide +kernel
theorem dX10_replace_73 : decode cX10_replace 73 = .ok (.iload_n 1, 1) := by decide +kernel
theorem dX10_replace_74 : decode cX10_replace 74 = .ok (.dup2, 1) := by decide +kernel
theorem dX10_replace_75 : decode cX10_replace 75 = .ok (.iaload, 1) := by decide +kernel
theorem dX10_replace_76 : decode cX10_replace 76 = .ok (.iconst 1, 1) := by decide +kernel
theorem dX10_replace_77 : decode cX10_replace 77 = .ok (.iadd, 1) := by decide +kernel
theorem dX10_replace_78 : decode cX10_replace 78 = .ok (.iastore, 1) := by decide +kernel
theorem dX10_replace_79 : decode cX10_replace 79 = .ok (.aload_n 0, 1) := by decide +kernel
theorem dX10_replace_80 : decode cX10_replace 80 = .ok (.getfield 55, 3) := by decide +kernel
theorem dX10_replace_83 : decode cX10_replace 83 = .ok (.iload_n 1, 1) := by decide +kernel
theorem dX10_replace_84 : decode cX10_replace 84 = .ok (.iaload, 1) := by decide +kernel
theorem dX10_replace_85 : decode cX10_replace 85 = .ok (.ireturn, 1) := by decide +kernel
theorem dX10_isReplaceable_0 : decode cX10_isReplaceable 0 = .ok (.aload_n 0, 1) := by decide +kernel
theorem dX10_isReplaceable_1 : decode cX10_isReplaceable 1 = .ok (.iconst 0, 1) := by decide +kernel
theorem dX10_isReplaceable_2 : decode cX10_isReplaceable 2 = .ok (.putfield 85, 3) := by decide +kernel
theorem dX10_isReplaceable_5 : decode cX10_isReplaceable 5 = .ok (.aload_n 0, 1) := by decide +kernel
theorem dX10_isReplaceable_6 : decode cX10_isReplaceable 6 = .ok (.iload_n 1, 1) := by decide +kernel
theorem dX10_isReplaceable_7 : decode cX10_isReplaceable 7 = .ok (.invokevirtual 152, 3) := by decide +kernel
theorem dX10_isReplaceable_10 : decode cX10_isReplaceable 10 = .ok (.ifCond .ne 10, 3) := by decide +kernel
theorem dX10_isReplaceable_13 : decode cX10_isReplaceable 13 = .ok (.aload_n 0, 1) := by decide +kernel
theorem dX10_isReplaceable_14 : decode cX10_isReplaceable 14 = .ok (.iconst 1, 1) := by decide +kernel
theorem dX10_isReplaceable_15 : decode cX10_isReplaceable 15 = .ok (.putfield 85, 3) := by decide +kernel
theorem dX10_isReplaceable_18 : decode cX10_isReplaceable 18 = .ok (.iconst 0, 1) := by decide +kernel
theorem dX10_isReplaceable_19 : decode cX10_isReplaceable 19 = .ok (.ireturn, 1) := by decide +kernel
theorem dX10_isReplaceable_20 : decode cX10_isReplaceable 20 = .ok (.aload_n 0, 1) := by decide +kernel
theorem dX10_isReplaceable_21 : decode cX10_isReplaceable 21 = .ok (.iload_n 1, 1) := by decide +kernel
theorem dX10_isReplaceable_22 : decode cX10_isReplaceable 22 = .ok (.invokevirtual 158, 3) := by decide +kernel
theorem dX10_isReplaceable_25 : decode cX10_isReplaceable 25 = .ok (.ireturn, 1) := by decide +kernel
theorem dX10_surname_0 : decode cX10_surname 0 = .ok (.aload_n 0, 1) := by decide +kernel
theorem dX10_surname_1 : decode cX10_surname 1 = .ok (.iconst 0, 1) := by decide +kernel
theorem dX10_surname_2 : decode cX10_surname 2 = .ok (.putfield 85, 3) := by decide +kernel
theorem dX10_surname_5 : decode cX10_surname 5 = .ok (.aload_n 0, 1) := by decide +kernel
theorem dX10_surname_6 : decode cX10_surname 6 = .ok (.iload_n 1, 1) := by decide +kernel
theorem dX10_surname_7 : decode cX10_surname 7 = .ok (.invokevirtual 152, 3) := by decide +kernel
theorem dX10_surname_10 : decode cX10_surname 10 = .ok (.ifCond .eq 12, 3) := by decide +kernel
theorem dX10_surname_13 : decode cX10_surname 13 = .ok (.iload_n 2, 1) := by decide +kernel
theorem dX10_surname_14 : decode cX10_surname 14 = .ok (.iconst 0, 1) := by decide +kernel
theorem dX10_surname_15 : decode cX10_surname 15 = .ok (.iconst 3, 1) := by decide +kernel
theorem dX10_surname_16 : decode cX10_surname 16 = .ok (.invokestatic 91, 3) := by decide +kernel
theorem dX10_surname_19 : decode cX10_surname 19 = .ok (.ifCond .ne 10, 3) := by decide +kernel
theorem dX10_surname_22 : decode cX10_surname 22 = .ok (.aload_n 0, 1) := by decide +kernel
theorem dX10_surname_23 : decode cX10_surname 23 = .ok (.iconst 1, 1) := by decide +kernel
theorem dX10_surname_24 : decode cX10_surname 24 = .ok (.putfield 85, 3) := by decide +kernel
theorem dX10_surname_27 : decode cX10_surname 27 = .ok (.iconst 0, 1) := by decide +kernel
theorem dX10_surname_28 : decode cX10_surname 28 = .ok (.ireturn, 1) := by decide +kernel
theorem dX10_surname_29 : decode cX10_surname 29 = .ok (.aload_n 0, 1) := by decide +kernel
theorem dX10_surname_30 : decode cX10_surname 30 = .ok (.getfield 42, 3) := by decide +kernel
theorem dX10_surname_33 : decode cX10_surname 33 = .ok (.iconst 4, 1) := by decide +kernel
theorem dX10_surname_34 : decode cX10_surname 34 = .ok (.iload_n 1, 1) := by decide +kernel
theorem dX10_surname_35 : decode cX10_surname 35 = .ok (.imul, 1) := by decide +kernel
theorem dX10_surname_36 : decode cX10_surname 36 = .ok (.iload_n 2, 1) := by decide +kernel
theorem dX10_surname_37 : decode cX10_surname 37 = .ok (.iadd, 1) := by decide +kernel
theorem dX10_surname_38 : decode cX10_surname 38 = .ok (.caload, 1) := by decide +kernel
theorem dX10_surname_39 : decode cX10_surname 39 = .ok (.ireturn, 1) := by decide +kernel
theorem dX10_papers_0 : decode cX10_papers 0 = .ok (.aload_n 0, 1) := by decide +kernel
theorem dX10_papers_1 : decode cX10_papers 1 = .ok (.iconst 0, 1) := by decide +kernel
theorem dX10_papers_2 : decode cX10_papers 2 = .ok (.putfield 85, 3) := by decide +kernel
theorem dX10_papers_5 : decode cX10_papers 5 = .ok (.aload_n 0, 1) := by decide +kernel
theorem dX10_papers_6 : decode cX10_papers 6 = .ok (.getfield 98, 3) := by decide +kernel
theorem dX10_papers_9 : decode cX10_papers 9 = .ok (.ireturn, 1) := by decide +kernel
theorem dX10_isGone_0 : decode cX10_isGone 0 = .ok (.aload_n 0, 1) := by decide +kernel
theorem dX10_isGone_1 : decode cX10_isGone 1 = .ok (.getfield 46, 3) := by decide +kernel
theorem dX10_isGone_4 : decode cX10_isGone 4 = .ok (.iload_n 1, 1) := by decide +kernel
theorem dX10_isGone_5 : decode cX10_isGone 5 = .ok (.iaload, 1) := by decide +kernel
theorem dX10_isGone_6 : decode cX10_isGone 6 = .ok (.ifCond .gt 12, 3) := by decide +kernel
theorem dX10_isGone_9 : decode cX10_isGone 9 = .ok (.iload_n 2, 1) := by decide +kernel
theorem dX10_isGone_10 : decode cX10_isGone 10 = .ok (.iload_n 1, 1) := by decide +kernel
theorem dX10_isGone_11 : decode cX10_isGone 11 = .ok (.ishr, 1) := by decide +kernel
theorem dX10_isGone_12 : decode cX10_isGone 12 = .ok (.iconst 1, 1) := by decide +kernel
theorem dX10_isGone_13 : decode cX10_isGone 13 = .ok (.iand, 1) := by decide +kernel
theorem dX10_isGone_14 : decode cX10_isGone 14 = .ok (.iconst 1, 1) := by decide +kernel
theorem dX10_isGone_15 : decode cX10_isGone 15 = .ok (.if_icmp .ne 7, 3) := by decide +kernel
theorem dX10_isGone_18 : decode cX10_isGone 18 = .ok (.iconst 1, 1) := by decide +kernel
theorem dX10_isGone_19 : decode cX10_isGone 19 = .ok (.goto 4, 3) := by decide +kernel
theorem dX10_isGone_22 : decode cX10_isGone 22 = .ok (.iconst 0, 1) := by decide +kernel
theorem dX10_isGone_23 : decode cX10_isGone 23 = .ok (.ireturn, 1) := by decide +kernel
theorem dX10_isFree_0 : decode cX10_isFree 0 = .ok (.iconst 0, 1) := by decide +kernel
theorem dX10_isFree_1 : decode cX10_isFree 1 = .ok (.istore 4, 2) := by decide +kernel
theorem dX10_isFree_3 : decode cX10_isFree 3 = .ok (.iload 4, 2) := by decide +kernel
theorem dX10_isFree_5 : decode cX10_isFree 5 = .ok (.iload_n 2, 1) := by decide +kernel
theorem dX10_isFree_6 : decode cX10_isFree 6 = .ok (.if_icmp .ge 47, 3) := by decide +kernel
theorem dX10_isFree_9 : decode cX10_isFree 9 = .ok (.aload_n 0, 1) := by decide +kernel
theorem dX10_isFree_10 : decode cX10_isFree 10 = .ok (.getfield 67, 3) := by decide +kernel
theorem dX10_isFree_13 : decode cX10_isFree 13 = .ok (.iload 4, 2) := by decide +kernel
theorem dX10_isFree_15 : decode cX10_isFree 15 = .ok (.iaload, 1) := by decide +kernel
theorem dX10_isFree_16 : decode cX10_isFree 16 = .ok (.iload_n 1, 1) := by decide +kernel
theorem dX10_isFree_17 : decode cX10_isFree 17 = .ok (.if_icmp .ne 30, 3) := by decide +kernel
theorem dX10_isFree_20 : decode cX10_isFree 20 = .ok (.aload_n 0, 1) := by decide +kernel
theorem dX10_isFree_21 : decode cX10_isFree 21 = .ok (.getfield 70, 3) := by decide +kernel
theorem dX10_isFree_24 : decode cX10_isFree 24 = .ok (.iload 4, 2) := by decide +kernel
theorem dX10_isFree_26 : decode cX10_isFree 26 = .ok (.baload, 1) := by decide +kernel
theorem dX10_isFree_27 : decode cX10_isFree 27 = .ok (.ifCond .eq 20, 3) := by decide +kernel
theorem dX10_isFree_30 : decode cX10_isFree 30 = .ok (.aload_n 0, 1) := by decide +kernel
theorem dX10_isFree_31 : decode cX10_isFree 31 = .ok (.aload_n 0, 1) := by decide +kernel
theorem dX10_isFree_32 : decode cX10_isFree 32 = .ok (.getfield 64, 3) := by decide +kernel
theorem dX10_isFree_35 : decode cX10_isFree 35 = .ok (.iload 4, 2) := by decide +kernel
theorem dX10_isFree_37 : decode cX10_isFree 37 = .ok (.iaload, 1) := by decide +kernel
theorem dX10_isFree_38 : decode cX10_isFree 38 = .ok (.iload_n 3, 1) := by decide +kernel
theorem dX10_isFree_39 : decode cX10_isFree 39 = .ok (.invokevirtual 161, 3) := by decide +kernel
theorem dX10_isFree_42 : decode cX10_isFree 42 = .ok (.ifCond .ne 5, 3) := by decide +kernel
theorem dX10_isFree_45 : decode cX10_isFree 45 = .ok (.iconst 0, 1) := by decide +kernel
theorem dX10_isFree_46 : decode cX10_isFree 46 = .ok (.ireturn, 1) := by decide +kernel
theorem dX10_isFree_47 : decode cX10_isFree 47 = .ok (.iinc 4 1, 3) := by decide +kernel
theorem dX10_isFree_50 : decode cX10_isFree 50 = .ok (.goto (-47), 3) := by decide +kernel
theorem dX10_isFree_53 : decode cX10_isFree 53 = .ok (.iconst 1, 1) := by decide +kernel
theorem dX10_isFree_54 : decode cX10_isFree 54 = .ok (.ireturn, 1) := by decide +kernel
theorem dX10_openResult_0 : decode cX10_openResult 0 = .ok (.aload_n 0, 1) := by decide +kernel
theorem dX10_openResult_1 : decode cX10_openResult 1 = .ok (.getfield 70, 3) := by decide +kernel
theorem dX10_openResult_4 : decode cX10_openResult 4 = .ok (.iload_n 1, 1) := by decide +kernel
theorem dX10_openResult_5 : decode cX10_openResult 5 = .ok (.baload, 1) := by decide +kernel
theorem dX10_openResult_6 : decode cX10_openResult 6 = .ok (.ifCond .ne 5, 3) := by decide +kernel
theorem dX10_openResult_9 : decode cX10_openResult 9 = .ok (.iconst 1, 1) := by decide +kernel
theorem dX10_openResult_10 : decode cX10_openResult 10 = .ok (.ireturn, 1) := by decide +kernel
theorem dX10_openResult_11 : decode cX10_openResult 11 = .ok (.aload_n 0, 1) := by decide +kernel
theorem dX10_openResult_12 : decode cX10_openResult 12 = .ok (.getfield 33, 3) := by decide +kernel
theorem dX10_openResult_15 : decode cX10_openResult 15 = .ok (.aload_n 0, 1) := by decide +kernel
theorem dX10_openResult_16 : decode cX10_openResult 16 = .ok (.getfield 67, 3) := by decide +kernel
theorem dX10_openResult_19 : decode cX10_openResult 19 = .ok (.iload_n 1, 1) := by decide +kernel
theorem dX10_openResult_20 : decode cX10_openResult 20 = .ok (.iaload, 1) := by decide +kernel
theorem dX10_openResult_21 : decode cX10_openResult 21 = .ok (.baload, 1) := by decide +kernel
theorem dX10_openResult_22 : decode cX10_openResult 22 = .ok (.ifCond .eq 5, 3) := by decide +kernel
theorem dX10_openResult_25 : decode cX10_openResult 25 = .ok (.iconst 2, 1) := by decide +kernel
theorem dX10_openResult_26 : decode cX10_openResult 26 = .ok (.ireturn, 1) := by decide +kernel
theorem dX10_openResult_27 : decode cX10_openResult 27 = .ok (.aload_n 0, 1) := by decide +kernel
theorem dX10_openResult_28 : decode cX10_openResult 28 = .ok (.aload_n 0, 1) := by decide +kernel
theorem dX10_openResult_29 : decode cX10_openResult 29 = .ok (.getfield 64, 3) := by decide +kernel
theorem dX10_openResult_32 : decode cX10_openResult 32 = .ok (.iload_n 1, 1) := by decide +kernel
theorem dX10_openResult_33 : decode cX10_openResult 33 = .ok (.iaload, 1) := by decide +kernel
theorem dX10_openResult_34 : decode cX10_openResult 34 = .ok (.iload_n 2, 1) := by decide +kernel
theorem dX10_openResult_35 : decode cX10_openResult 35 = .ok (.invokevirtual 161, 3) := by decide +kernel
theorem dX10_openResult_38 : decode cX10_openResult 38 = .ok (.ifCond .eq 5, 3) := by decide +kernel
theorem dX10_openResult_41 : decode cX10_openResult 41 = .ok (.iconst 3, 1) := by decide +kernel
theorem dX10_openResult_42 : decode cX10_openResult 42 = .ok (.ireturn, 1) := by decide +kernel
theorem dX10_openResult_43 : decode cX10_openResult 43 = .ok (.aload_n 0, 1) := by decide +kernel
theorem dX10_openResult_44 : decode cX10_openResult 44 = .ok (.aload_n 0, 1) := by decide +kernel
theorem dX10_openResult_45 : decode cX10_openResult 45 = .ok (.getfield 67, 3) := by decide +kernel
theorem dX10_openResult_48 : decode cX10_openResult 48 = .ok (.iload_n 1, 1) := by decide +kernel
theorem dX10_openResult_49 : decode cX10_openResult 49 = .ok (.iaload, 1) := by decide +kernel
theorem dX10_openResult_50 : decode cX10_openResult 50 = .ok (.iload_n 1, 1) := by decide +kernel
theorem dX10_openResult_51 : decode cX10_openResult 51 = .ok (.iload_n 2, 1) := by decide +kernel
theorem dX10_openResult_52 : decode cX10_openResult 52 = .ok (.invokevirtual 165, 3) := by decide +kernel
theorem dX10_openResult_55 : decode cX10_openResult 55 = .ok (.ifCond .eq 7, 3) := by decide +kernel
theorem dX10_openResult_58 : decode cX10_openResult 58 = .ok (.iconst 0, 1) := by decide +kernel
theorem dX10_openResult_59 : decode cX10_openResult 59 = .ok (.goto 4, 3) := by decide +kernel
theorem dX10_openResult_62 : decode cX10_openResult 62 = .ok (.iconst 4, 1) := by decide +kernel
theorem dX10_openResult_63 : decode cX10_openResult 63 = .ok (.ireturn, 1) := by decide +kernel
theorem dX10_result_0 : decode cX10_result 0 = .ok (.aload_n 0, 1) := by decide +kernel
theorem dX10_result_1 : decode cX10_result 1 = .ok (.invokevirtual 108, 3) := by decide +kernel
theorem dX10_result_4 : decode cX10_result 4 = .ok (.ifCond .eq 12, 3) := by decide +kernel
theorem dX10_result_7 : decode cX10_result 7 = .ok (.aload_n 0, 1) := by decide +kernel
theorem dX10_result_8 : decode cX10_result 8 = .ok (.iload_n 1, 1) := by decide +kernel
theorem dX10_result_9 : decode cX10_result 9 = .ok (.iconst 0, 1) := by decide +kernel
theorem dX10_result_10 : decode cX10_result 10 = .ok (.invokevirtual 118, 3) := by decide +kernel
theorem dX10_result_13 : decode cX10_result 13 = .ok (.goto 9, 3) := by decide +kernel
theorem dX10_result_16 : decode cX10_result 16 = .ok (.aload_n 0, 1) := by decide +kernel
theorem dX10_result_17 : decode cX10_result 17 = .ok (.getfield 73, 3) := by decide +kernel
theorem dX10_result_20 : decode cX10_result 20 = .ok (.iload_n 1, 1) := by decide +kernel
theorem dX10_result_21 : decode cX10_result 21 = .ok (.iaload, 1) := by decide +kernel
theorem dX10_result_22 : decode cX10_result 22 = .ok (.ireturn, 1) := by decide +kernel
theorem dX10_counting_0 : decode cX10_counting 0 = .ok (.iconst 0, 1) := by decide +kernel
theorem dX10_counting_1 : decode cX10_counting 1 = .ok (.istore_n 3, 1) := by decide +kernel
theorem dX10_counting_2 : decode cX10_counting 2 = .ok (.lconst 0, 1) := by decide +kernel
theorem dX10_counting_3 : decode cX10_counting 3 = .ok (.lstore 4, 2) := by decide +kernel
theorem dX10_counting_5 : decode cX10_counting 5 = .ok (.iconst 0, 1) := by decide +kernel
theorem dX10_counting_6 : decode cX10_counting 6 = .ok (.istore 6, 2) := by decide +kernel
theorem dX10_counting_8 : decode cX10_counting 8 = .ok (.iload 6, 2) := by decide +kernel
theorem dX10_counting_10 : decode cX10_counting 10 = .ok (.aload_n 0, 1) := by decide +kernel
theorem dX10_counting_11 : decode cX10_counting 11 = .ok (.getfield 115, 3) := by decide +kernel
theorem dX10_counting_14 : decode cX10_counting 14 = .ok (.if_icmp .ge 99, 3) := by decide +kernel
theorem dX10_counting_17 : decode cX10_counting 17 = .ok (.aload_n 0, 1) := by decide +kernel
theorem dX10_counting_18 : decode cX10_counting 18 = .ok (.getfield 70, 3) := by decide +kernel
theorem dX10_counting_21 : decode cX10_counting 21 = .ok (.iload 6, 2) := by decide +kernel
theorem dX10_counting_23 : decode cX10_counting 23 = .ok (.baload, 1) := by decide +kernel
theorem dX10_counting_24 : decode cX10_counting 24 = .ok (.ifCond .eq 83, 3) := by decide +kernel
theorem dX10_counting_27 : decode cX10_counting 27 = .ok (.aload_n 0, 1) := by decide +kernel
theorem dX10_counting_28 : decode cX10_counting 28 = .ok (.aload_n 0, 1) := by decide +kernel
theorem dX10_counting_29 : decode cX10_counting 29 = .ok (.getfield 64, 3) := by decide +kernel
theorem dX10_counting_32 : decode cX10_counting 32 = .ok (.iload 6, 2) := by decide +kernel
theorem dX10_counting_34 : decode cX10_counting 34 = .ok (.iaload, 1) := by decide +kernel
theorem dX10_counting_35 : decode cX10_counting 35 = .ok (.iload_n 2, 1) := by decide +kernel
theorem dX10_counting_36 : decode cX10_counting 36 = .ok (.invokevirtual 161, 3) := by decide +kernel
theorem dX10_counting_39 : decode cX10_counting 39 = .ok (.ifCond .ne 68, 3) := by decide +kernel
theorem dX10_counting_42 : decode cX10_counting 42 = .ok (.iload_n 3, 1) := by decide +kernel
theorem dX10_counting_43 : decode cX10_counting 43 = .ok (.aload_n 0, 1) := by decide +kernel
theorem dX10_counting_44 : decode cX10_counting 44 = .ok (.getfield 64, 3) := by decide +kernel
theorem dX10_counting_47 : decode cX10_counting 47 = .ok (.iload 6, 2) := by decide +kernel
theorem dX10_counting_49 : decode cX10_counting 49 = .ok (.iaload, 1) := by decide +kernel
theorem dX10_counting_50 : decode cX10_counting 50 = .ok (.iload_n 1, 1) := by decide +kernel
theorem dX10_counting_51 : decode cX10_counting 51 = .ok (.if_icmp .ne 39, 3) := by decide +kernel
theorem dX10_counting_54 : decode cX10_counting 54 = .ok (.aload_n 0, 1) := by decide +kernel
theorem dX10_counting_55 : decode cX10_counting 55 = .ok (.getfield 33, 3) := by decide +kernel
theorem dX10_counting_58 : decode cX10_counting 58 = .ok (.aload_n 0, 1) := by decide +kernel
theorem dX10_counting_59 : decode cX10_counting 59 = .ok (.getfield 67, 3) := by decide +kernel
theorem dX10_counting_62 : decode cX10_counting 62 = .ok (.iload 6, 2) := by decide +kernel
theorem dX10_counting_64 : decode cX10_counting 64 = .ok (.iaload, 1) := by decide +kernel
theorem dX10_counting_65 : decode cX10_counting 65 = .ok (.baload, 1) := by decide +kernel
theorem dX10_counting_66 : decode cX10_counting 66 = .ok (.ifCond .ne 24, 3) := by decide +kernel
theorem dX10_counting_69 : decode cX10_counting 69 = .ok (.lload 4, 2) := by decide +kernel
theorem dX10_counting_71 : decode cX10_counting 71 = .ok (.aload_n 0, 1) := by decide +kernel
theorem dX10_counting_72 : decode cX10_counting 72 = .ok (.getfield 67, 3) := by decide +kernel
theorem dX10_counting_75 : decode cX10_counting 75 = .ok (.iload 6, 2) := by decide +kernel
theorem dX10_counting_77 : decode cX10_counting 77 = .ok (.iaload, 1) := by decide +kernel
theorem dX10_counting_78 : decode cX10_counting 78 = .ok (.lshr, 1) := by decide +kernel
theorem dX10_counting_79 : decode cX10_counting 79 = .ok (.lconst 1, 1) := by decide +kernel
theorem dX10_counting_80 : decode cX10_counting 80 = .ok (.land, 1) := by decide +kernel
theorem dX10_counting_81 : decode cX10_counting 81 = .ok (.lconst 0, 1) := by decide +kernel
theorem dX10_counting_82 : decode cX10_counting 82 = .ok (.lcmp, 1) := by decide +kernel
theorem dX10_counting_83 : decode cX10_counting 83 = .ok (.ifCond .ne 7, 3) := by decide +kernel
theorem dX10_counting_86 : decode cX10_counting 86 = .ok (.iconst 1, 1) := by decide +kernel
theorem dX10_counting_87 : decode cX10_counting 87 = .ok (.goto 4, 3) := by decide +kernel
theorem dX10_counting_90 : decode cX10_counting 90 = .ok (.iconst 0, 1) := by decide +kernel
theorem dX10_counting_91 : decode cX10_counting 91 = .ok (.iadd, 1) := by decide +kernel
theorem dX10_counting_92 : decode cX10_counting 92 = .ok (.istore_n 3, 1) := by decide +kernel
theorem dX10_counting_93 : decode cX10_counting 93 = .ok (.lload 4, 2) := by decide +kernel
theorem dX10_counting_95 : decode cX10_counting 95 = .ok (.lconst 1, 1) := by decide +kernel
theorem dX10_counting_96 : decode cX10_counting 96 = .ok (.aload_n 0, 1) := by decide +kernel
theorem dX10_counting_97 : decode cX10_counting 97 = .ok (.getfield 67, 3) := by decide +kernel
theorem dX10_counting_100 : decode cX10_counting 100 = .ok (.iload 6, 2) := by decide +kernel
theorem dX10_counting_102 : decode cX10_counting 102 = .ok (.iaload, 1) := by decide +kernel
theorem dX10_counting_103 : decode cX10_counting 103 = .ok (.lshl, 1) := by decide +kernel
theorem dX10_counting_104 : decode cX10_counting 104 = .ok (.lor, 1) := by decide +kernel
theorem dX10_counting_105 : decode cX10_counting 105 = .ok (.lstore 4, 2) := by decide +kernel
theorem dX10_counting_107 : decode cX10_counting 107 = .ok (.iinc 6 1, 3) := by decide +kernel
theorem dX10_counting_110 : decode cX10_counting 110 = .ok (.goto (-102), 3) := by decide +kernel
theorem dX10_counting_113 : decode cX10_counting 113 = .ok (.iload_n 3, 1) := by decide +kernel
theorem dX10_counting_114 : decode cX10_counting 114 = .ok (.ireturn, 1) := by decide +kernel
theorem dX10_counted_0 : decode cX10_counted 0 = .ok (.aload_n 0, 1) := by decide +kernel
theorem dX10_counted_1 : decode cX10_counted 1 = .ok (.iconst 0, 1) := by decide +kernel
theorem dX10_counted_2 : decode cX10_counted 2 = .ok (.putfield 85, 3) := by decide +kernel
theorem dX10_counted_5 : decode cX10_counted 5 = .ok (.aload_n 0, 1) := by decide +kernel
theorem dX10_counted_6 : decode cX10_counted 6 = .ok (.iload_n 1, 1) := by decide +kernel
theorem dX10_counted_7 : decode cX10_counted 7 = .ok (.invokevirtual 152, 3) := by decide +kernel
theorem dX10_counted_10 : decode cX10_counted 10 = .ok (.ifCond .ne 9, 3) := by decide +kernel
theorem dX10_counted_13 : decode cX10_counted 13 = .ok (.aload_n 0, 1) := by decide +kernel
theorem dX10_counted_14 : decode cX10_counted 14 = .ok (.iconst 1, 1) := by decide +kernel
theorem dX10_counted_15 : decode cX10_counted 15 = .ok (.invokevirtual 104, 3) := by decide +kernel
theorem dX10_counted_18 : decode cX10_counted 18 = .ok (.ireturn, 1) := by decide +kernel
theorem dX10_counted_19 : decode cX10_counted 19 = .ok (.iconst 0, 1) := by decide +kernel
theorem dX10_counted_20 : decode cX10_counted 20 = .ok (.istore_n 2, 1) := by decide +kernel
theorem dX10_counted_21 : decode cX10_counted 21 = .ok (.iconst 0, 1) := by decide +kernel
theorem dX10_counted_22 : decode cX10_counted 22 = .ok (.istore_n 3, 1) := by decide +kernel
theorem dX10_counted_23 : decode cX10_counted 23 = .ok (.iload_n 3, 1) := by decide +kernel
theorem dX10_counted_24 : decode cX10_counted 24 = .ok (.aload_n 0, 1) := by decide +kernel
theorem dX10_counted_25 : decode cX10_counted 25 = .ok (.getfield 115, 3) := by decide +kernel
theorem dX10_counted_28 : decode cX10_counted 28 = .ok (.if_icmp .ge 35, 3) := by decide +kernel
theorem dX10_counted_31 : decode cX10_counted 31 = .ok (.iload_n 2, 1) := by decide +kernel
theorem dX10_counted_32 : decode cX10_counted 32 = .ok (.aload_n 0, 1) := by decide +kernel
theorem dX10_counted_33 : decode cX10_counted 33 = .ok (.getfield 64, 3) := by decide +kernel
theorem dX10_counted_36 : decode cX10_counted 36 = .ok (.iload_n 3, 1) := by decide +kernel
theorem dX10_counted_37 : decode cX10_counted 37 = .ok (.iaload, 1) := by decide +kernel
theorem dX10_counted_38 : decode cX10_counted 38 = .ok (.iload_n 1, 1) := by decide +kernel
theorem dX10_counted_39 : decode cX10_counted 39 = .ok (.if_icmp .ne 15, 3) := by decide +kernel
theorem dX10_counted_42 : decode cX10_counted 42 = .ok (.aload_n 0, 1) := by decide +kernel
theorem dX10_counted_43 : decode cX10_counted 43 = .ok (.iload_n 3, 1) := by decide +kernel
theorem dX10_counted_44 : decode cX10_counted 44 = .ok (.invokevirtual 168, 3) := by decide +kernel
theorem dX10_counted_47 : decode cX10_counted 47 = .ok (.ifCond .ne 7, 3) := by decide +kernel
theorem dX10_counted_50 : decode cX10_counted 50 = .ok (.iconst 1, 1) := by decide +kernel
theorem dX10_counted_51 : decode cX10_counted 51 = .ok (.goto 4, 3) := by decide +kernel
theorem dX10_counted_54 : decode cX10_counted 54 = .ok (.iconst 0, 1) := by decide +kernel
theorem dX10_counted_55 : decode cX10_counted 55 = .ok (.iadd, 1) := by decide +kernel
theorem dX10_counted_56 : decode cX10_counted 56 = .ok (.istore_n 2, 1) := by decide +kernel
theorem dX10_counted_57 : decode cX10_counted 57 = .ok (.iinc 3 1, 3) := by decide +kernel
theorem dX10_counted_60 : decode cX10_counted 60 = .ok (.goto (-37), 3) := by decide +kernel
theorem dX10_counted_63 : decode cX10_counted 63 = .ok (.iload_n 2, 1) := by decide +kernel
theorem dX10_counted_64 : decode cX10_counted 64 = .ok (.ireturn, 1) := by decide +kernel
theorem dX10_signatureResult_0 : decode cX10_signatureResult 0 = .ok (.aload_n 0, 1) := by decide +kernel
theorem dX10_signatureResult_1 : decode cX10_signatureResult 1 = .ok (.iconst 0, 1) := by decide +kernel
theorem dX10_signatureResult_2 : decode cX10_signatureResult 2 = .ok (.putfield 85, 3) := by decide +kernel
theorem dX10_signatureResult_5 : decode cX10_signatureResult 5 = .ok (.iload_n 1, 1) := by decide +kernel
theorem dX10_signatureResult_6 : decode cX10_signatureResult 6 = .ok (.iconst 0, 1) := by decide +kernel
theorem dX10_signatureResult_7 : decode cX10_signatureResult 7 = .ok (.aload_n 0, 1) := by decide +kernel
theorem dX10_signatureResult_8 : decode cX10_signatureResult 8 = .ok (.getfield 115, 3) := by decide +kernel
theorem dX10_signatureResult_11 : decode cX10_signatureResult 11 = .ok (.iconst 1, 1) := by decide +kernel
theorem dX10_signatureResult_12 : decode cX10_signatureResult 12 = .ok (.isub, 1) := by decide +kernel
theorem dX10_signatureResult_13 : decode cX10_signatureResult 13 = .ok (.invokestatic 91, 3) := by decide +kernel
theorem dX10_signatureResult_16 : decode cX10_signatureResult 16 = .ok (.ifCond .eq 11, 3) := by decide +kernel
theorem dX10_signatureResult_19 : decode cX10_signatureResult 19 = .ok (.aload_n 0, 1) := by decide +kernel
theorem dX10_signatureResult_20 : decode cX10_signatureResult 20 = .ok (.iload_n 1, 1) := by decide +kernel
theorem dX10_signatureResult_21 : decode cX10_signatureResult 21 = .ok (.invokevirtual 168, 3) := by decide +kernel
theorem dX10_signatureResult_24 : decode cX10_signatureResult 24 = .ok (.goto 8, 3) := by decide +kernel
theorem dX10_signatureResult_27 : decode cX10_signatureResult 27 = .ok (.aload_n 0, 1) := by decide +kernel
theorem dX10_signatureResult_28 : decode cX10_signatureResult 28 = .ok (.iconst 1, 1) := by decide +kernel
theorem dX10_signatureResult_29 : decode cX10_signatureResult 29 = .ok (.invokevirtual 104, 3) := by decide +kernel
theorem dX10_signatureResult_32 : decode cX10_signatureResult 32 = .ok (.ireturn, 1) := by decide +kernel
theorem dX10_wouldCount_0 : decode cX10_wouldCount 0 = .ok (.aload_n 0, 1) := by decide +kernel
theorem dX10_wouldCount_1 : decode cX10_wouldCount 1 = .ok (.iconst 0, 1) := by decide +kernel
theorem dX10_wouldCount_2 : decode cX10_wouldCount 2 = .ok (.putfield 85, 3) := by decide +kernel
theorem dX10_wouldCount_5 : decode cX10_wouldCount 5 = .ok (.aload_n 0, 1) := by decide +kernel
theorem dX10_wouldCount_6 : decode cX10_wouldCount 6 = .ok (.iload_n 1, 1) := by decide +kernel
theorem dX10_wouldCount_7 : decode cX10_wouldCount 7 = .ok (.invokevirtual 152, 3) := by decide +kernel
theorem dX10_wouldCount_10 : decode cX10_wouldCount 10 = .ok (.ifCond .eq 11, 3) := by decide +kernel
theorem dX10_wouldCount_13 : decode cX10_wouldCount 13 = .ok (.aload_n 0, 1) := by decide +kernel
theorem dX10_wouldCount_14 : decode cX10_wouldCount 14 = .ok (.iload_n 2, 1) := by decide +kernel
theorem dX10_wouldCount_15 : decode cX10_wouldCount 15 = .ok (.invokevirtual 129, 3) := by decide +kernel
theorem dX10_wouldCount_18 : decode cX10_wouldCount 18 = .ok (.ifCond .ne 10, 3) := by decide +kernel
theorem dX10_wouldCount_21 : decode cX10_wouldCount 21 = .ok (.aload_n 0, 1) := by decide +kernel
theorem dX10_wouldCount_22 : decode cX10_wouldCount 22 = .ok (.iconst 1, 1) := by decide +kernel
theorem dX10_wouldCount_23 : decode cX10_wouldCount 23 = .ok (.putfield 85, 3) := by decide +kernel
theorem dX10_wouldCount_26 : decode cX10_wouldCount 26 = .ok (.iconst 0, 1) := by decide +kernel
theorem dX10_wouldCount_27 : decode cX10_wouldCount 27 = .ok (.ireturn, 1) := by decide +kernel
theorem dX10_wouldCount_28 : decode cX10_wouldCount 28 = .ok (.aload_n 0, 1) := by decide +kernel
theorem dX10_wouldCount_29 : decode cX10_wouldCount 29 = .ok (.invokevirtual 108, 3) := by decide +kernel
theorem dX10_wouldCount_32 : decode cX10_wouldCount 32 = .ok (.ifCond .eq 12, 3) := by decide +kernel
theorem dX10_wouldCount_35 : decode cX10_wouldCount 35 = .ok (.aload_n 0, 1) := by decide +kernel
theorem dX10_wouldCount_36 : decode cX10_wouldCount 36 = .ok (.getfield 46, 3) := by decide +kernel
theorem dX10_wouldCount_39 : decode cX10_wouldCount 39 = .ok (.iload_n 1, 1) := by decide +kernel
theorem dX10_wouldCount_40 : decode cX10_wouldCount 40 = .ok (.iaload, 1) := by decide +kernel
theorem dX10_wouldCount_41 : decode cX10_wouldCount 41 = .ok (.ifCond .le 10, 3) := by decide +kernel
theorem dX10_wouldCount_44 : decode cX10_wouldCount 44 = .ok (.aload_n 0, 1) := by decide +kernel
theorem dX10_wouldCount_45 : decode cX10_wouldCount 45 = .ok (.iconst 2, 1) := by decide +kernel
theorem dX10_wouldCount_46 : decode cX10_wouldCount 46 = .ok (.putfield 85, 3) := by decide +kernel
theorem dX10_wouldCount_49 : decode cX10_wouldCount 49 = .ok (.iconst 0, 1) := by decide +kernel
theorem dX10_wouldCount_50 : decode cX10_wouldCount 50 = .ok (.ireturn, 1) := by decide +kernel
theorem dX10_wouldCount_51 : decode cX10_wouldCount 51 = .ok (.aload_n 0, 1) := by decide +kernel
theorem dX10_wouldCount_52 : decode cX10_wouldCount 52 = .ok (.getfield 33, 3) := by decide +kernel
theorem dX10_wouldCount_55 : decode cX10_wouldCount 55 = .ok (.iload_n 2, 1) := by decide +kernel
theorem dX10_wouldCount_56 : decode cX10_wouldCount 56 = .ok (.baload, 1) := by decide +kernel
theorem dX10_wouldCount_57 : decode cX10_wouldCount 57 = .ok (.ifCond .ne 35, 3) := by decide +kernel
theorem dX10_wouldCount_60 : decode cX10_wouldCount 60 = .ok (.aload_n 0, 1) := by decide +kernel
theorem dX10_wouldCount_61 : decode cX10_wouldCount 61 = .ok (.getfield 30, 3) := by decide +kernel
theorem dX10_wouldCount_64 : decode cX10_wouldCount 64 = .ok (.iload_n 2, 1) := by decide +kernel
theorem dX10_wouldCount_65 : decode cX10_wouldCount 65 = .ok (.iaload, 1) := by decide +kernel
theorem dX10_wouldCount_66 : decode cX10_wouldCount 66 = .ok (.aload_n 0, 1) := by decide +kernel
theorem dX10_wouldCount_67 : decode cX10_wouldCount 67 = .ok (.getfield 36, 3) := by decide +kernel
theorem dX10_wouldCount_70 : decode cX10_wouldCount 70 = .ok (.iload_n 1, 1) := by decide +kernel
theorem dX10_wouldCount_71 : decode cX10_wouldCount 71 = .ok (.iaload, 1) := by decide +kernel
theorem dX10_wouldCount_72 : decode cX10_wouldCount 72 = .ok (.if_icmp .ne 20, 3) := by decide +kernel
theorem dX10_wouldCount_75 : decode cX10_wouldCount 75 = .ok (.aload_n 0, 1) := by decide +kernel
theorem dX10_wouldCount_76 : decode cX10_wouldCount 76 = .ok (.iload_n 2, 1) := by decide +kernel
theorem dX10_wouldCount_77 : decode cX10_wouldCount 77 = .ok (.aload_n 0, 1) := by decide +kernel
theorem dX10_wouldCount_78 : decode cX10_wouldCount 78 = .ok (.getfield 115, 3) := by decide +kernel
theorem dX10_wouldCount_81 : decode cX10_wouldCount 81 = .ok (.iconst 0, 1) := by decide +kernel
theorem dX10_wouldCount_82 : decode cX10_wouldCount 82 = .ok (.invokevirtual 165, 3) := by decide +kernel
theorem dX10_wouldCount_85 : decode cX10_wouldCount 85 = .ok (.ifCond .eq 7, 3) := by decide +kernel
theorem dX10_wouldCount_88 : decode cX10_wouldCount 88 = .ok (.iconst 1, 1) := by decide +kernel
theorem dX10_wouldCount_89 : decode cX10_wouldCount 89 = .ok (.goto 4, 3) := by decide +kernel
theorem dX10_wouldCount_92 : decode cX10_wouldCount 92 = .ok (.iconst 0, 1) := by decide +kernel
theorem dX10_wouldCount_93 : decode cX10_wouldCount 93 = .ok (.ireturn, 1) := by decide +kernel
theorem dX10_paperOf_0 : decode cX10_paperOf 0 = .ok (.aload_n 0, 1) := by decide +kernel
theorem dX10_paperOf_1 : decode cX10_paperOf 1 = .ok (.iconst 0, 1) := by decide +kernel
theorem dX10_paperOf_2 : decode cX10_paperOf 2 = .ok (.putfield 85, 3) := by decide +kernel
theorem dX10_paperOf_5 : decode cX10_paperOf 5 = .ok (.aload_n 0, 1) := by decide +kernel
theorem dX10_paperOf_6 : decode cX10_paperOf 6 = .ok (.iload_n 1, 1) := by decide +kernel
theorem dX10_paperOf_7 : decode cX10_paperOf 7 = .ok (.invokevirtual 129, 3) := by decide +kernel
theorem dX10_paperOf_10 : decode cX10_paperOf 10 = .ok (.ifCond .ne 9, 3) := by decide +kernel
theorem dX10_paperOf_13 : decode cX10_paperOf 13 = .ok (.aload_n 0, 1) := by decide +kernel
theorem dX10_paperOf_14 : decode cX10_paperOf 14 = .ok (.iconst 1, 1) := by decide +kernel
theorem dX10_paperOf_15 : decode cX10_paperOf 15 = .ok (.invokevirtual 104, 3) := by decide +kernel
theorem dX10_paperOf_18 : decode cX10_paperOf 18 = .ok (.ireturn, 1) := by decide +kernel
theorem dX10_paperOf_19 : decode cX10_paperOf 19 = .ok (.iconst 0, 1) := by decide +kernel
theorem dX10_paperOf_20 : decode cX10_paperOf 20 = .ok (.istore_n 2, 1) := by decide +kernel
theorem dX10_paperOf_21 : decode cX10_paperOf 21 = .ok (.iload_n 2, 1) := by decide +kernel
theorem dX10_paperOf_22 : decode cX10_paperOf 22 = .ok (.aload_n 0, 1) := by decide +kernel
theorem dX10_paperOf_23 : decode cX10_paperOf 23 = .ok (.getfield 115, 3) := by decide +kernel
theorem dX10_paperOf_26 : decode cX10_paperOf 26 = .ok (.if_icmp .ge 34, 3) := by decide +kernel
theorem dX10_paperOf_29 : decode cX10_paperOf 29 = .ok (.aload_n 0, 1) := by decide +kernel
theorem dX10_paperOf_30 : decode cX10_paperOf 30 = .ok (.getfield 67, 3) := by decide +kernel
theorem dX10_paperOf_33 : decode cX10_paperOf 33 = .ok (.iload_n 2, 1) := by decide +kernel
theorem dX10_paperOf_34 : decode cX10_paperOf 34 = .ok (.iaload, 1) := by decide +kernel
theorem dX10_paperOf_35 : decode cX10_paperOf 35 = .ok (.iload_n 1, 1) := by decide +kernel
theorem dX10_paperOf_36 : decode cX10_paperOf 36 = .ok (.if_icmp .ne 18, 3) := by decide +kernel
theorem dX10_paperOf_39 : decode cX10_paperOf 39 = .ok (.aload_n 0, 1) := by decide +kernel
theorem dX10_paperOf_40 : decode cX10_paperOf 40 = .ok (.iload_n 2, 1) := by decide +kernel
theorem dX10_paperOf_41 : decode cX10_paperOf 41 = .ok (.invokevirtual 168, 3) := by decide +kernel
theorem dX10_paperOf_44 : decode cX10_paperOf 44 = .ok (.ifCond .ne 10, 3) := by decide +kernel
theorem dX10_paperOf_47 : decode cX10_paperOf 47 = .ok (.aload_n 0, 1) := by decide +kernel
theorem dX10_paperOf_48 : decode cX10_paperOf 48 = .ok (.getfield 64, 3) := by decide +kernel
theorem dX10_paperOf_51 : decode cX10_paperOf 51 = .ok (.iload_n 2, 1) := by decide +kernel
theorem dX10_paperOf_52 : decode cX10_paperOf 52 = .ok (.iaload, 1) := by decide +kernel
theorem dX10_paperOf_53 : decode cX10_paperOf 53 = .ok (.ireturn, 1) := by decide +kernel
theorem dX10_paperOf_54 : decode cX10_paperOf 54 = .ok (.iinc 2 1, 3) := by decide +kernel
theorem dX10_paperOf_57 : decode cX10_paperOf 57 = .ok (.goto (-36), 3) := by decide +kernel
theorem dX10_paperOf_60 : decode cX10_paperOf 60 = .ok (.aload_n 0, 1) := by decide +kernel
theorem dX10_paperOf_61 : decode cX10_paperOf 61 = .ok (.iconst 2, 1) := by decide +kernel
theorem dX10_paperOf_62 : decode cX10_paperOf 62 = .ok (.invokevirtual 104, 3) := by decide +kernel
theorem dX10_paperOf_65 : decode cX10_paperOf 65 = .ok (.ireturn, 1) := by decide +kernel
theorem dX10_gain_0 : decode cX10_gain 0 = .ok (.aload_n 0, 1) := by decide +kernel
theorem dX10_gain_1 : decode cX10_gain 1 = .ok (.iconst 0, 1) := by decide +kernel
theorem dX10_gain_2 : decode cX10_gain 2 = .ok (.putfield 85, 3) := by decide +kernel
theorem dX10_gain_5 : decode cX10_gain 5 = .ok (.aload_n 0, 1) := by decide +kernel
theorem dX10_gain_6 : decode cX10_gain 6 = .ok (.iload_n 1, 1) := by decide +kernel
theorem dX10_gain_7 : decode cX10_gain 7 = .ok (.invokevirtual 152, 3) := by decide +kernel
theorem dX10_gain_10 : decode cX10_gain 10 = .ok (.ifCond .eq 11, 3) := by decide +kernel
theorem dX10_gain_13 : decode cX10_gain 13 = .ok (.aload_n 0, 1) := by decide +kernel
theorem dX10_gain_14 : decode cX10_gain 14 = .ok (.iload_n 2, 1) := by decide +kernel
theorem dX10_gain_15 : decode cX10_gain 15 = .ok (.invokevirtual 152, 3) := by decide +kernel
theorem dX10_gain_18 : decode cX10_gain 18 = .ok (.ifCond .ne 9, 3) := by decide +kernel
theorem dX10_gain_21 : decode cX10_gain 21 = .ok (.aload_n 0, 1) := by decide +kernel
theorem dX10_gain_22 : decode cX10_gain 22 = .ok (.iconst 1, 1) := by decide +kernel
theorem dX10_gain_23 : decode cX10_gain 23 = .ok (.invokevirtual 104, 3) := by decide +kernel
theorem dX10_gain_26 : decode cX10_gain 26 = .ok (.ireturn, 1) := by decide +kernel
theorem dX10_gain_27 : decode cX10_gain 27 = .ok (.iload_n 1, 1) := by decide +kernel
theorem dX10_gain_28 : decode cX10_gain 28 = .ok (.iload_n 2, 1) := by decide +kernel
theorem dX10_gain_29 : decode cX10_gain 29 = .ok (.if_icmp .ne 9, 3) := by decide +kernel
theorem dX10_gain_32 : decode cX10_gain 32 = .ok (.aload_n 0, 1) := by decide +kernel
theorem dX10_gain_33 : decode cX10_gain 33 = .ok (.iconst 2, 1) := by decide +kernel
theorem dX10_gain_34 : decode cX10_gain 34 = .ok (.invokevirtual 104, 3) := by decide +kernel
theorem dX10_gain_37 : decode cX10_gain 37 = .ok (.ireturn, 1) := by decide +kernel
theorem dX10_gain_38 : decode cX10_gain 38 = .ok (.aload_n 0, 1) := by decide +kernel
theorem dX10_gain_39 : decode cX10_gain 39 = .ok (.invokevirtual 108, 3) := by decide +kernel
theorem dX10_gain_42 : decode cX10_gain 42 = .ok (.ifCond .eq 12, 3) := by decide +kernel
theorem dX10_gain_45 : decode cX10_gain 45 = .ok (.aload_n 0, 1) := by decide +kernel
theorem dX10_gain_46 : decode cX10_gain 46 = .ok (.getfield 46, 3) := by decide +kernel
theorem dX10_gain_49 : decode cX10_gain 49 = .ok (.iload_n 1, 1) := by decide +kernel
theorem dX10_gain_50 : decode cX10_gain 50 = .ok (.iaload, 1) := by decide +kernel
theorem dX10_gain_51 : decode cX10_gain 51 = .ok (.ifCond .le 9, 3) := by decide +kernel
theorem dX10_gain_54 : decode cX10_gain 54 = .ok (.aload_n 0, 1) := by decide +kernel
theorem dX10_gain_55 : decode cX10_gain 55 = .ok (.iconst 3, 1) := by decide +kernel
theorem dX10_gain_56 : decode cX10_gain 56 = .ok (.invokevirtual 104, 3) := by decide +kernel
theorem dX10_gain_59 : decode cX10_gain 59 = .ok (.ireturn, 1) := by decide +kernel
theorem dX10_gain_60 : decode cX10_gain 60 = .ok (.aload_n 0, 1) := by decide +kernel
theorem dX10_gain_61 : decode cX10_gain 61 = .ok (.iload_n 1, 1) := by decide +kernel
theorem dX10_gain_62 : decode cX10_gain 62 = .ok (.iconst 1, 1) := by decide +kernel
theorem dX10_gain_63 : decode cX10_gain 63 = .ok (.iload_n 2, 1) := by decide +kernel
theorem dX10_gain_64 : decode cX10_gain 64 = .ok (.ishl, 1) := by decide +kernel
theorem dX10_gain_65 : decode cX10_gain 65 = .ok (.invokevirtual 171, 3) := by decide +kernel
theorem dX10_gain_68 : decode cX10_gain 68 = .ok (.aload_n 0, 1) := by decide +kernel
theorem dX10_gain_69 : decode cX10_gain 69 = .ok (.iload_n 1, 1) := by decide +kernel
theorem dX10_gain_70 : decode cX10_gain 70 = .ok (.iconst 0, 1) := by decide +kernel
theorem dX10_gain_71 : decode cX10_gain 71 = .ok (.invokevirtual 171, 3) := by decide +kernel
theorem dX10_gain_74 : decode cX10_gain 74 = .ok (.isub, 1) := by decide +kernel
theorem dX10_gain_75 : decode cX10_gain 75 = .ok (.ireturn, 1) := by decide +kernel
theorem dX10_bits_0 : decode cX10_bits 0 = .ok (.iconst 0, 1) := by decide +kernel
theorem dX10_bits_1 : decode cX10_bits 1 = .ok (.istore_n 1, 1) := by decide +kernel
theorem dX10_bits_2 : decode cX10_bits 2 = .ok (.iload_n 0, 1) := by decide +kernel
theorem dX10_bits_3 : decode cX10_bits 3 = .ok (.istore_n 2, 1) := by decide +kernel
theorem dX10_bits_4 : decode cX10_bits 4 = .ok (.iload_n 2, 1) := by decide +kernel
theorem dX10_bits_5 : decode cX10_bits 5 = .ok (.ifCond .le 16, 3) := by decide +kernel
theorem dX10_bits_8 : decode cX10_bits 8 = .ok (.iload_n 1, 1) := by decide +kernel
theorem dX10_bits_9 : decode cX10_bits 9 = .ok (.iload_n 2, 1) := by decide +kernel
theorem dX10_bits_10 : decode cX10_bits 10 = .ok (.iconst 1, 1) := by decide +kernel
theorem dX10_bits_11 : decode cX10_bits 11 = .ok (.iand, 1) := by decide +kernel
theorem dX10_bits_12 : decode cX10_bits 12 = .ok (.iadd, 1) := by decide +kernel
theorem dX10_bits_13 : decode cX10_bits 13 = .ok (.istore_n 1, 1) := by decide +kernel
theorem dX10_bits_14 : decode cX10_bits 14 = .ok (.iload_n 2, 1) := by decide +kernel
theorem dX10_bits_15 : decode cX10_bits 15 = .ok (.iconst 1, 1) := by decide +kernel
theorem dX10_bits_16 : decode cX10_bits 16 = .ok (.ishr, 1) := by decide +kernel
theorem dX10_bits_17 : decode cX10_bits 17 = .ok (.istore_n 2, 1) := by decide +kernel
theorem dX10_bits_18 : decode cX10_bits 18 = .ok (.goto (-14), 3) := by decide +kernel
theorem dX10_bits_21 : decode cX10_bits 21 = .ok (.iload_n 1, 1) := by decide +kernel
theorem dX10_bits_22 : decode cX10_bits 22 = .ok (.ireturn, 1) := by decide +kernel
theorem dX10_fewestWithdrawals_0 : decode cX10_fewestWithdrawals 0 = .ok (.aload_n 0, 1) := by decide +kernel
theorem dX10_fewestWithdrawals_1 : decode cX10_fewestWithdrawals 1 = .ok (.iconst 0, 1) := by decide +kernel
theorem dX10_fewestWithdrawals_2 : decode cX10_fewestWithdrawals 2 = .ok (.putfield 85, 3) := by decide +kernel
theorem dX10_fewestWithdrawals_5 : decode cX10_fewestWithdrawals 5 = .ok (.aload_n 0, 1) := by decide +kernel
theorem dX10_fewestWithdrawals_6 : decode cX10_fewestWithdrawals 6 = .ok (.iload_n 1, 1) := by decide +kernel
theorem dX10_fewestWithdrawals_7 : decode cX10_fewestWithdrawals 7 = .ok (.invokevirtual 152, 3) := by decide +kernel
theorem dX10_fewestWithdrawals_10 : decode cX10_fewestWithdrawals 10 = .ok (.ifCond .ne 9, 3) := by decide +kernel
theorem dX10_fewestWithdrawals_13 : decode cX10_fewestWithdrawals 13 = .ok (.aload_n 0, 1) := by decide +kernel
theorem dX10_fewestWithdrawals_14 : decode cX10_fewestWithdrawals 14 = .ok (.iconst 1, 1) := by decide +kernel
theorem dX10_fewestWithdrawals_15 : decode cX10_fewestWithdrawals 15 = .ok (.invokevirtual 104, 3) := by decide +kernel
theorem dX10_fewestWithdrawals_18 : decode cX10_fewestWithdrawals 18 = .ok (.ireturn, 1) := by decide +kernel
theorem dX10_fewestWithdrawals_19 : decode cX10_fewestWithdrawals 19 = .ok (.aload_n 0, 1) := by decide +kernel
theorem dX10_fewestWithdrawals_20 : decode cX10_fewestWithdrawals 20 = .ok (.invokevirtual 108, 3) := by decide +kernel
theorem dX10_fewestWithdrawals_23 : decode cX10_fewestWithdrawals 23 = .ok (.ifCond .eq 12, 3) := by decide +kernel
theorem dX10_fewestWithdrawals_26 : decode cX10_fewestWithdrawals 26 = .ok (.aload_n 0, 1) := by decide +kernel
theorem dX10_fewestWithdrawals_27 : decode cX10_fewestWithdrawals 27 = .ok (.getfield 46, 3) := by decide +kernel
theorem dX10_fewestWithdrawals_30 : decode cX10_fewestWithdrawals 30 = .ok (.iload_n 1, 1) := by decide +kernel
theorem dX10_fewestWithdrawals_31 : decode cX10_fewestWithdrawals 31 = .ok (.iaload, 1) := by decide +kernel
theorem dX10_fewestWithdrawals_32 : decode cX10_fewestWithdrawals 32 = .ok (.ifCond .le 9, 3) := by decide +kernel
theorem dX10_fewestWithdrawals_35 : decode cX10_fewestWithdrawals 35 = .ok (.aload_n 0, 1) := by decide +kernel
theorem dX10_fewestWithdrawals_36 : decode cX10_fewestWithdrawals 36 = .ok (.iconst 2, 1) := by decide +kernel
theorem dX10_fewestWithdrawals_37 : decode cX10_fewestWithdrawals 37 = .ok (.invokevirtual 104, 3) := by decide +kernel
theorem dX10_fewestWithdrawals_40 : decode cX10_fewestWithdrawals 40 = .ok (.ireturn, 1) := by decide +kernel
theorem dX10_fewestWithdrawals_41 : decode cX10_fewestWithdrawals 41 = .ok (.iconst (-1), 1) := by decide +kernel
theorem dX10_fewestWithdrawals_42 : decode cX10_fewestWithdrawals 42 = .ok (.istore_n 2, 1) := by decide +kernel
theorem dX10_fewestWithdrawals_43 : decode cX10_fewestWithdrawals 43 = .ok (.iconst 0, 1) := by decide +kernel
theorem dX10_fewestWithdrawals_44 : decode cX10_fewestWithdrawals 44 = .ok (.istore_n 3, 1) := by decide +kernel
theorem dX10_fewestWithdrawals_45 : decode cX10_fewestWithdrawals 45 = .ok (.iload_n 3, 1) := by decide +kernel
theorem dX10_fewestWithdrawals_46 : decode cX10_fewestWithdrawals 46 = .ok (.iconst 1, 1) := by decide +kernel
theorem dX10_fewestWithdrawals_47 : decode cX10_fewestWithdrawals 47 = .ok (.aload_n 0, 1) := by decide +kernel
theorem dX10_fewestWithdrawals_48 : decode cX10_fewestWithdrawals 48 = .ok (.getfield 98, 3) := by decide +kernel
theorem dX10_fewestWithdrawals_51 : decode cX10_fewestWithdrawals 51 = .ok (.ishl, 1) := by decide +kernel
theorem dX10_fewestWithdrawals_52 : decode cX10_fewestWithdrawals 52 = .ok (.if_icmp .ge 70, 3) := by decide +kernel
theorem dX10_fewestWithdrawals_55 : decode cX10_fewestWithdrawals 55 = .ok (.iload_n 3, 1) := by decide +kernel
theorem dX10_fewestWithdrawals_56 : decode cX10_fewestWithdrawals 56 = .ok (.iload_n 1, 1) := by decide +kernel
theorem dX10_fewestWithdrawals_57 : decode cX10_fewestWithdrawals 57 = .ok (.ishr, 1) := by decide +kernel
theorem dX10_fewestWithdrawals_58 : decode cX10_fewestWithdrawals 58 = .ok (.iconst 1, 1) := by decide +kernel
theorem dX10_fewestWithdrawals_59 : decode cX10_fewestWithdrawals 59 = .ok (.iand, 1) := by decide +kernel
theorem dX10_fewestWithdrawals_60 : decode cX10_fewestWithdrawals 60 = .ok (.ifCond .ne 22, 3) := by decide +kernel
theorem dX10_fewestWithdrawals_63 : decode cX10_fewestWithdrawals 63 = .ok (.iload_n 2, 1) := by decide +kernel
theorem dX10_fewestWithdrawals_64 : decode cX10_fewestWithdrawals 64 = .ok (.ifCond .lt 14, 3) := by decide +kernel
theorem dX10_fewestWithdrawals_67 : decode cX10_fewestWithdrawals 67 = .ok (.iload_n 3, 1) := by decide +kernel
theorem dX10_fewestWithdrawals_68 : decode cX10_fewestWithdrawals 68 = .ok (.invokestatic 174, 3) := by decide +kernel
theorem dX10_fewestWithdrawals_71 : decode cX10_fewestWithdrawals 71 = .ok (.iload_n 2, 1) := by decide +kernel
theorem dX10_fewestWithdrawals_72 : decode cX10_fewestWithdrawals 72 = .ok (.invokestatic 174, 3) := by decide +kernel
theorem dX10_fewestWithdrawals_75 : decode cX10_fewestWithdrawals 75 = .ok (.if_icmp .ge 7, 3) := by decide +kernel
theorem dX10_fewestWithdrawals_78 : decode cX10_fewestWithdrawals 78 = .ok (.iconst 1, 1) := by decide +kernel
theorem dX10_fewestWithdrawals_79 : decode cX10_fewestWithdrawals 79 = .ok (.goto 4, 3) := by decide +kernel
theorem dX10_fewestWithdrawals_82 : decode cX10_fewestWithdrawals 82 = .ok (.iconst 0, 1) := by decide +kernel
theorem dX10_fewestWithdrawals_83 : decode cX10_fewestWithdrawals 83 = .ok (.istore 4, 2) := by decide +kernel
theorem dX10_fewestWithdrawals_85 : decode cX10_fewestWithdrawals 85 = .ok (.iload 4, 2) := by decide +kernel
theorem dX10_fewestWithdrawals_87 : decode cX10_fewestWithdrawals 87 = .ok (.ifCond .eq 27, 3) := by decide +kernel
theorem dX10_fewestWithdrawals_90 : decode cX10_fewestWithdrawals 90 = .ok (.aload_n 0, 1) := by decide +kernel
theorem dX10_fewestWithdrawals_91 : decode cX10_fewestWithdrawals 91 = .ok (.iload_n 1, 1) := by decide +kernel
theorem dX10_fewestWithdrawals_92 : decode cX10_fewestWithdrawals 92 = .ok (.iload_n 3, 1) := by decide +kernel
theorem dX10_fewestWithdrawals_93 : decode cX10_fewestWithdrawals 93 = .ok (.invokevirtual 171, 3) := by decide +kernel
theorem dX10_fewestWithdrawals_96 : decode cX10_fewestWithdrawals 96 = .ok (.aload_n 0, 1) := by decide +kernel
theorem dX10_fewestWithdrawals_97 : decode cX10_fewestWithdrawals 97 = .ok (.getfield 19, 3) := by decide +kernel
theorem dX10_fewestWithdrawals_100 : decode cX10_fewestWithdrawals 100 = .ok (.aload_n 0, 1) := by decide +kernel
theorem dX10_fewestWithdrawals_101 : decode cX10_fewestWithdrawals 101 = .ok (.getfield 36, 3) := by decide +kernel
theorem dX10_fewestWithdrawals_104 : decode cX10_fewestWithdrawals 104 = .ok (.iload_n 1, 1) := by decide +kernel
theorem dX10_fewestWithdrawals_105 : decode cX10_fewestWithdrawals 105 = .ok (.iaload, 1) := by decide +kernel
theorem dX10_fewestWithdrawals_106 : decode cX10_fewestWithdrawals 106 = .ok (.iaload, 1) := by decide +kernel
theorem dX10_fewestWithdrawals_107 : decode cX10_fewestWithdrawals 107 = .ok (.if_icmp .lt 7, 3) := by decide +kernel
theorem dX10_fewestWithdrawals_110 : decode cX10_fewestWithdrawals 110 = .ok (.iload_n 3, 1) := by decide +kernel
theorem dX10_fewestWithdrawals_111 : decode cX10_fewestWithdrawals 111 = .ok (.goto 4, 3) := by decide +kernel
theorem dX10_fewestWithdrawals_114 : decode cX10_fewestWithdrawals 114 = .ok (.iload_n 2, 1) := by decide +kernel
theorem dX10_fewestWithdrawals_115 : decode cX10_fewestWithdrawals 115 = .ok (.istore_n 2, 1) := by decide +kernel
theorem dX10_fewestWithdrawals_116 : decode cX10_fewestWithdrawals 116 = .ok (.iinc 3 1, 3) := by decide +kernel
theorem dX10_fewestWithdrawals_119 : decode cX10_fewestWithdrawals 119 = .ok (.goto (-74), 3) := by decide +kernel
theorem dX10_fewestWithdrawals_122 : decode cX10_fewestWithdrawals 122 = .ok (.iload_n 2, 1) := by decide +kernel
theorem dX10_fewestWithdrawals_123 : decode cX10_fewestWithdrawals 123 = .ok (.ifCond .ge 11, 3) := by decide +kernel
theorem dX10_fewestWithdrawals_126 : decode cX10_fewestWithdrawals 126 = .ok (.aload_n 0, 1) := by decide +kernel
theorem dX10_fewestWithdrawals_127 : decode cX10_fewestWithdrawals 127 = .ok (.iconst 3, 1) := by decide +kernel
theorem dX10_fewestWithdrawals_128 : decode cX10_fewestWithdrawals 128 = .ok (.invokevirtual 104, 3) := by decide +kernel
theorem dX10_fewestWithdrawals_131 : decode cX10_fewestWithdrawals 131 = .ok (.goto 4, 3) := by decide +kernel
theorem dX10_fewestWithdrawals_134 : decode cX10_fewestWithdrawals 134 = .ok (.iload_n 2, 1) := by decide +kernel
theorem dX10_fewestWithdrawals_135 : decode cX10_fewestWithdrawals 135 = .ok (.ireturn, 1) := by decide +kernel
theorem dX10_signatures_0 : decode cX10_signatures 0 = .ok (.aload_n 0, 1) := by decide +kernel
theorem dX10_signatures_1 : decode cX10_signatures 1 = .ok (.iconst 0, 1) := by decide +kernel
theorem dX10_signatures_2 : decode cX10_signatures 2 = .ok (.putfield 85, 3) := by decide +kernel
theorem dX10_signatures_5 : decode cX10_signatures 5 = .ok (.aload_n 0, 1) := by decide +kernel
theorem dX10_signatures_6 : decode cX10_signatures 6 = .ok (.getfield 115, 3) := by decide +kernel
theorem dX10_signatures_9 : decode cX10_signatures 9 = .ok (.ireturn, 1) := by decide +kernel
theorem dX10_isDouble_0 : decode cX10_isDouble 0 = .ok (.iconst 0, 1) := by decide +kernel
theorem dX10_isDouble_1 : decode cX10_isDouble 1 = .ok (.istore_n 2, 1) := by decide +kernel
theorem dX10_isDouble_2 : decode cX10_isDouble 2 = .ok (.iload_n 2, 1) := by decide +kernel
theorem dX10_isDouble_3 : decode cX10_isDouble 3 = .ok (.iload_n 1, 1) := by decide +kernel
theorem dX10_isDouble_4 : decode cX10_isDouble 4 = .ok (.if_icmp .ge 59, 3) := by decide +kernel
theorem dX10_isDouble_7 : decode cX10_isDouble 7 = .ok (.aload_n 0, 1) := by decide +kernel
theorem dX10_isDouble_8 : decode cX10_isDouble 8 = .ok (.getfield 39, 3) := by decide +kernel
theorem dX10_isDouble_11 : decode cX10_isDouble 11 = .ok (.iload_n 1, 1) := by decide +kernel
theorem dX10_isDouble_12 : decode cX10_isDouble 12 = .ok (.iaload, 1) := by decide +kernel
theorem dX10_isDouble_13 : decode cX10_isDouble 13 = .ok (.ifCond .lt 44, 3) := by decide +kernel
theorem dX10_isDouble_16 : decode cX10_isDouble 16 = .ok (.aload_n 0, 1) := by decide +kernel
theorem dX10_isDouble_17 : decode cX10_isDouble 17 = .ok (.getfield 39, 3) := by decide +kernel
theorem dX10_isDouble_20 : decode cX10_isDouble 20 = .ok (.iload_n 2, 1) := by decide +kernel
theorem dX10_isDouble_21 : decode cX10_isDouble 21 = .ok (.iaload, 1) := by decide +kernel
theorem dX10_isDouble_22 : decode cX10_isDouble 22 = .ok (.aload_n 0, 1) := by decide +kernel
theorem dX10_isDouble_23 : decode cX10_isDouble 23 = .ok (.getfield 39, 3) := by decide +kernel
theorem dX10_isDouble_26 : decode cX10_isDouble 26 = .ok (.iload_n 1, 1) := by decide +kernel
theorem dX10_isDouble_27 : decode cX10_isDouble 27 = .ok (.iaload, 1) := by decide +kernel
theorem dX10_isDouble_28 : decode cX10_isDouble 28 = .ok (.if_icmp .ne 29, 3) := by decide +kernel
theorem dX10_isDouble_31 : decode cX10_isDouble 31 = .ok (.aload_n 0, 1) := by decide +kernel
theorem dX10_isDouble_32 : decode cX10_isDouble 32 = .ok (.getfield 36, 3) := by decide +kernel
theorem dX10_isDouble_35 : decode cX10_isDouble 35 = .ok (.iload_n 2, 1) := by decide +kernel
theorem dX10_isDouble_36 : decode cX10_isDouble 36 = .ok (.iaload, 1) := by decide +kernel
theorem dX10_isDouble_37 : decode cX10_isDouble 37 = .ok (.aload_n 0, 1) := by decide +kernel
theorem dX10_isDouble_38 : decode cX10_isDouble 38 = .ok (.getfield 36, 3) := by decide +kernel
theorem dX10_isDouble_41 : decode cX10_isDouble 41 = .ok (.iload_n 1, 1) := by decide +kernel
theorem dX10_isDouble_42 : decode cX10_isDouble 42 = .ok (.iaload, 1) := by decide +kernel
theorem dX10_isDouble_43 : decode cX10_isDouble 43 = .ok (.if_icmp .ne 14, 3) := by decide +kernel
theorem dX10_isDouble_46 : decode cX10_isDouble 46 = .ok (.aload_n 0, 1) := by decide +kernel
theorem dX10_isDouble_47 : decode cX10_isDouble 47 = .ok (.getfield 82, 3) := by decide +kernel
theorem dX10_isDouble_50 : decode cX10_isDouble 50 = .ok (.iload_n 2, 1) := by decide +kernel
theorem dX10_isDouble_51 : decode cX10_isDouble 51 = .ok (.iaload, 1) := by decide +kernel
theorem dX10_isDouble_52 : decode cX10_isDouble 52 = .ok (.ifCond .ne 5, 3) := by decide +kernel
theorem dX10_isDouble_55 : decode cX10_isDouble 55 = .ok (.iconst 1, 1) := by decide +kernel
theorem dX10_isDouble_56 : decode cX10_isDouble 56 = .ok (.ireturn, 1) := by decide +kernel
theorem dX10_isDouble_57 : decode cX10_isDouble 57 = .ok (.iinc 2 1, 3) := by decide +kernel
theorem dX10_isDouble_60 : decode cX10_isDouble 60 = .ok (.goto (-58), 3) := by decide +kernel
theorem dX10_isDouble_63 : decode cX10_isDouble 63 = .ok (.iconst 0, 1) := by decide +kernel
theorem dX10_isDouble_64 : decode cX10_isDouble 64 = .ok (.ireturn, 1) := by decide +kernel
theorem dX10_openReason_0 : decode cX10_openReason 0 = .ok (.iconst 0, 1) := by decide +kernel
theorem dX10_openReason_1 : decode cX10_openReason 1 = .ok (.istore_n 2, 1) := by decide +kernel
theorem dX10_openReason_2 : decode cX10_openReason 2 = .ok (.iload_n 2, 1) := by decide +kernel
theorem dX10_openReason_3 : decode cX10_openReason 3 = .ok (.iload_n 1, 1) := by decide +kernel
theorem dX10_openReason_4 : decode cX10_openReason 4 = .ok (.if_icmp .gt 111, 3) := by decide +kernel
theorem dX10_openReason_7 : decode cX10_openReason 7 = .ok (.aload_n 0, 1) := by decide +kernel
theorem dX10_openReason_8 : decode cX10_openReason 8 = .ok (.getfield 49, 3) := by decide +kernel
theorem dX10_openReason_11 : decode cX10_openReason 11 = .ok (.iload_n 2, 1) := by decide +kernel
theorem dX10_openReason_12 : decode cX10_openReason 12 = .ok (.iaload, 1) := by decide +kernel
theorem dX10_openReason_13 : decode cX10_openReason 13 = .ok (.aload_n 0, 1) := by decide +kernel
theorem dX10_openReason_14 : decode cX10_openReason 14 = .ok (.getfield 23, 3) := by decide +kernel
theorem dX10_openReason_17 : decode cX10_openReason 17 = .ok (.aload_n 0, 1) := by decide +kernel
theorem dX10_openReason_18 : decode cX10_openReason 18 = .ok (.getfield 36, 3) := by decide +kernel
theorem dX10_openReason_21 : decode cX10_openReason 21 = .ok (.iload_n 2, 1) := by decide +kernel
theorem dX10_openReason_22 : decode cX10_openReason 22 = .ok (.iaload, 1) := by decide +kernel
theorem dX10_openReason_23 : decode cX10_openReason 23 = .ok (.iaload, 1) := by decide +kernel
theorem dX10_openReason_24 : decode cX10_openReason 24 = .ok (.if_icmp .ge 7, 3) := by decide +kernel
theorem dX10_openReason_27 : decode cX10_openReason 27 = .ok (.iconst 1, 1) := by decide +kernel
theorem dX10_openReason_28 : decode cX10_openReason 28 = .ok (.goto 4, 3) := by decide +kernel
theorem dX10_openReason_31 : decode cX10_openReason 31 = .ok (.iconst 0, 1) := by decide +kernel
theorem dX10_openReason_32 : decode cX10_openReason 32 = .ok (.istore_n 3, 1) := by decide +kernel
theorem dX10_openReason_33 : decode cX10_openReason 33 = .ok (.aload_n 0, 1) := by decide +kernel
theorem dX10_openReason_34 : decode cX10_openReason 34 = .ok (.iload_n 2, 1) := by decide +kernel
theorem dX10_openReason_35 : decode cX10_openReason 35 = .ok (.iconst 0, 1) := by decide +kernel
theorem dX10_openReason_36 : decode cX10_openReason 36 = .ok (.invokevirtual 171, 3) := by decide +kernel
theorem dX10_openReason_39 : decode cX10_openReason 39 = .ok (.aload_n 0, 1) := by decide +kernel
theorem dX10_openReason_40 : decode cX10_openReason 40 = .ok (.getfield 19, 3) := by decide +kernel
theorem dX10_openReason_43 : decode cX10_openReason 43 = .ok (.aload_n 0, 1) := by decide +kernel
theorem dX10_openReason_44 : decode cX10_openReason 44 = .ok (.getfield 36, 3) := by decide +kernel
theorem dX10_openReason_47 : decode cX10_openReason 47 = .ok (.iload_n 2, 1) := by decide +kernel
theorem dX10_openReason_48 : decode cX10_openReason 48 = .ok (.iaload, 1) := by decide +kernel
theorem dX10_openReason_49 : decode cX10_openReason 49 = .ok (.iaload, 1) := by decide +kernel
theorem dX10_openReason_50 : decode cX10_openReason 50 = .ok (.if_icmp .ge 7, 3) := by decide +kernel
theorem dX10_openReason_53 : decode cX10_openReason 53 = .ok (.iconst 1, 1) := by decide +kernel
theorem dX10_openReason_54 : decode cX10_openReason 54 = .ok (.goto 4, 3) := by decide +kernel
theorem dX10_openReason_57 : decode cX10_openReason 57 = .ok (.iconst 0, 1) := by decide +kernel
theorem dX10_openReason_58 : decode cX10_openReason 58 = .ok (.istore 4, 2) := by decide +kernel
theorem dX10_openReason_60 : decode cX10_openReason 60 = .ok (.aload_n 0, 1) := by decide +kernel
theorem dX10_openReason_61 : decode cX10_openReason 61 = .ok (.getfield 82, 3) := by decide +kernel
theorem dX10_openReason_64 : decode cX10_openReason 64 = .ok (.iload_n 2, 1) := by decide +kernel
theorem dX10_openReason_65 : decode cX10_openReason 65 = .ok (.aload_n 0, 1) := by decide +kernel
theorem dX10_openReason_66 : decode cX10_openReason 66 = .ok (.getfield 46, 3) := by decide +kernel
theorem dX10_openReason_69 : decode cX10_openReason 69 = .ok (.iload_n 2, 1) := by decide +kernel
theorem dX10_openReason_70 : decode cX10_openReason 70 = .ok (.iaload, 1) := by decide +kernel
theorem dX10_openReason_71 : decode cX10_openReason 71 = .ok (.ifCond .le 7, 3) := by decide +kernel
theorem dX10_openReason_74 : decode cX10_openReason 74 = .ok (.iconst 1, 1) := by decide +kernel
theorem dX10_openReason_75 : decode cX10_openReason 75 = .ok (.goto 33, 3) := by decide +kernel
theorem dX10_openReason_78 : decode cX10_openReason 78 = .ok (.iload_n 3, 1) := by decide +kernel
theorem dX10_openReason_79 : decode cX10_openReason 79 = .ok (.ifCond .eq 7, 3) := by decide +kernel
theorem dX10_openReason_82 : decode cX10_openReason 82 = .ok (.iconst 2, 1) := by decide +kernel
theorem dX10_openReason_83 : decode cX10_openReason 83 = .ok (.goto 25, 3) := by decide +kernel
theorem dX10_openReason_86 : decode cX10_openReason 86 = .ok (.iload 4, 2) := by decide +kernel
theorem dX10_openReason_88 : decode cX10_openReason 88 = .ok (.ifCond .eq 7, 3) := by decide +kernel
theorem dX10_openReason_91 : decode cX10_openReason 91 = .ok (.iconst 3, 1) := by decide +kernel
theorem dX10_openReason_92 : decode cX10_openReason 92 = .ok (.goto 16, 3) := by decide +kernel
theorem dX10_openReason_95 : decode cX10_openReason 95 = .ok (.aload_n 0, 1) := by decide +kernel
theorem dX10_openReason_96 : decode cX10_openReason 96 = .ok (.iload_n 2, 1) := by decide +kernel
theorem dX10_openReason_97 : decode cX10_openReason 97 = .ok (.invokevirtual 177, 3) := by decide +kernel
theorem dX10_openReason_100 : decode cX10_openReason 100 = .ok (.ifCond .eq 7, 3) := by decide +kernel
theorem dX10_openReason_103 : decode cX10_openReason 103 = .ok (.iconst 4, 1) := by decide +kernel
theorem dX10_openReason_104 : decode cX10_openReason 104 = .ok (.goto 4, 3) := by decide +kernel
theorem dX10_openReason_107 : decode cX10_openReason 107 = .ok (.iconst 0, 1) := by decide +kernel
theorem dX10_openReason_108 : decode cX10_openReason 108 = .ok (.iastore, 1) := by decide +kernel
theorem dX10_openReason_109 : decode cX10_openReason 109 = .ok (.iinc 2 1, 3) := by decide +kernel
theorem dX10_openReason_112 : decode cX10_openReason 112 = .ok (.goto (-110), 3) := by decide +kernel
theorem dX10_openReason_115 : decode cX10_openReason 115 = .ok (.aload_n 0, 1) := by decide +kernel
theorem dX10_openReason_116 : decode cX10_openReason 116 = .ok (.getfield 82, 3) := by decide +kernel
theorem dX10_openReason_119 : decode cX10_openReason 119 = .ok (.iload_n 1, 1) := by decide +kernel
theorem dX10_openReason_120 : decode cX10_openReason 120 = .ok (.iaload, 1) := by decide +kernel
theorem dX10_openReason_121 : decode cX10_openReason 121 = .ok (.ireturn, 1) := by decide +kernel
theorem dX10_reasonOf_0 : decode cX10_reasonOf 0 = .ok (.aload_n 0, 1) := by decide +kernel
theorem dX10_reasonOf_1 : decode cX10_reasonOf 1 = .ok (.getfield 46, 3) := by decide +kernel
theorem dX10_reasonOf_4 : decode cX10_reasonOf 4 = .ok (.iload_n 1, 1) := by decide +kernel
theorem dX10_reasonOf_5 : decode cX10_reasonOf 5 = .ok (.iaload, 1) := by decide +kernel
theorem dX10_reasonOf_6 : decode cX10_reasonOf 6 = .ok (.ifCond .le 7, 3) := by decide +kernel
theorem dX10_reasonOf_9 : decode cX10_reasonOf 9 = .ok (.iconst 1, 1) := by decide +kernel
theorem dX10_reasonOf_10 : decode cX10_reasonOf 10 = .ok (.goto 24, 3) := by decide +kernel
theorem dX10_reasonOf_13 : decode cX10_reasonOf 13 = .ok (.aload_n 0, 1) := by decide +kernel
theorem dX10_reasonOf_14 : decode cX10_reasonOf 14 = .ok (.invokevirtual 108, 3) := by decide +kernel
theorem dX10_reasonOf_17 : decode cX10_reasonOf 17 = .ok (.ifCond .eq 11, 3) := by decide +kernel
theorem dX10_reasonOf_20 : decode cX10_reasonOf 20 = .ok (.aload_n 0, 1) := by decide +kernel
theorem dX10_reasonOf_21 : decode cX10_reasonOf 21 = .ok (.iload_n 1, 1) := by decide +kernel
theorem dX10_reasonOf_22 : decode cX10_reasonOf 22 = .ok (.invokevirtual 122, 3) := by decide +kernel
theorem dX10_reasonOf_25 : decode cX10_reasonOf 25 = .ok (.goto 9, 3) := by decide +kernel
theorem dX10_reasonOf_28 : decode cX10_reasonOf 28 = .ok (.aload_n 0, 1) := by decide +kernel
theorem dX10_reasonOf_29 : decode cX10_reasonOf 29 = .ok (.getfield 61, 3) := by decide +kernel
theorem dX10_reasonOf_32 : decode cX10_reasonOf 32 = .ok (.iload_n 1, 1) := by decide +kernel
theorem dX10_reasonOf_33 : decode cX10_reasonOf 33 = .ok (.iaload, 1) := by decide +kernel
theorem dX10_reasonOf_34 : decode cX10_reasonOf 34 = .ok (.istore_n 2, 1) := by decide +kernel
theorem dX10_reasonOf_35 : decode cX10_reasonOf 35 = .ok (.iload_n 2, 1) := by decide +kernel
theorem dX10_reasonOf_36 : decode cX10_reasonOf 36 = .ok (.ifCond .ne 16, 3) := by decide +kernel
theorem dX10_reasonOf_39 : decode cX10_reasonOf 39 = .ok (.aload_n 0, 1) := by decide +kernel
theorem dX10_reasonOf_40 : decode cX10_reasonOf 40 = .ok (.getfield 52, 3) := by decide +kernel
theorem dX10_reasonOf_43 : decode cX10_reasonOf 43 = .ok (.iload_n 1, 1) := by decide +kernel
theorem dX10_reasonOf_44 : decode cX10_reasonOf 44 = .ok (.baload, 1) := by decide +kernel
theorem dX10_reasonOf_45 : decode cX10_reasonOf 45 = .ok (.ifCond .eq 7, 3) := by decide +kernel
theorem dX10_reasonOf_48 : decode cX10_reasonOf 48 = .ok (.iconst 5, 1) := by decide +kernel
theorem dX10_reasonOf_49 : decode cX10_reasonOf 49 = .ok (.goto 4, 3) := by decide +kernel
theorem dX10_reasonOf_52 : decode cX10_reasonOf 52 = .ok (.iload_n 2, 1) := by decide +kernel
theorem dX10_reasonOf_53 : decode cX10_reasonOf 53 = .ok (.ireturn, 1) := by decide +kernel
theorem dX10_reason_0 : decode cX10_reason 0 = .ok (.aload_n 0, 1) := by decide +kernel
theorem dX10_reason_1 : decode cX10_reason 1 = .ok (.iconst 0, 1) := by decide +kernel
theorem dX10_reason_2 : decode cX10_reason 2 = .ok (.putfield 85, 3) := by decide +kernel
theorem dX10_reason_5 : decode cX10_reason 5 = .ok (.aload_n 0, 1) := by decide +kernel
theorem dX10_reason_6 : decode cX10_reason 6 = .ok (.iload_n 1, 1) := by decide +kernel
theorem dX10_reason_7 : decode cX10_reason 7 = .ok (.invokevirtual 152, 3) := by decide +kernel
theorem dX10_reason_10 : decode cX10_reason 10 = .ok (.ifCond .eq 11, 3) := by decide +kernel
theorem dX10_reason_13 : decode cX10_reason 13 = .ok (.aload_n 0, 1) := by decide +kernel
theorem dX10_reason_14 : decode cX10_reason 14 = .ok (.iload_n 1, 1) := by decide +kernel
theorem dX10_reason_15 : decode cX10_reason 15 = .ok (.invokevirtual 180, 3) := by decide +kernel
theorem dX10_reason_18 : decode cX10_reason 18 = .ok (.goto 8, 3) := by decide +kernel
theorem dX10_reason_21 : decode cX10_reason 21 = .ok (.aload_n 0, 1) := by decide +kernel
theorem dX10_reason_22 : decode cX10_reason 22 = .ok (.iconst 1, 1) := by decide +kernel
theorem dX10_reason_23 : decode cX10_reason 23 = .ok (.invokevirtual 104, 3) := by decide +kernel
theorem dX10_reason_26 : decode cX10_reason 26 = .ok (.ireturn, 1) := by decide +kernel
theorem dX10_reasonByReplay_0 : decode cX10_reasonByReplay 0 = .ok (.aload_n 0, 1) := by decide +kernel
theorem dX10_reasonByReplay_1 : decode cX10_reasonByReplay 1 = .ok (.iconst 0, 1) := by decide +kernel
theorem dX10_reasonByReplay_2 : decode cX10_reasonByReplay 2 = .ok (.putfield 85, 3) := by decide +kernel
theorem dX10_reasonByReplay_5 : decode cX10_reasonByReplay 5 = .ok (.aload_n 0, 1) := by decide +kernel
theorem dX10_reasonByReplay_6 : decode cX10_reasonByReplay 6 = .ok (.iload_n 1, 1) := by decide +kernel
theorem dX10_reasonByReplay_7 : decode cX10_reasonByReplay 7 = .ok (.invokevirtual 152, 3) := by decide +kernel
theorem dX10_reasonByReplay_10 : decode cX10_reasonByReplay 10 = .ok (.ifCond .eq 11, 3) := by decide +kernel
theorem dX10_reasonByReplay_13 : decode cX10_reasonByReplay 13 = .ok (.aload_n 0, 1) := by decide +kernel
theorem dX10_reasonByReplay_14 : decode cX10_reasonByReplay 14 = .ok (.iload_n 1, 1) := by decide +kernel
theorem dX10_reasonByReplay_15 : decode cX10_reasonByReplay 15 = .ok (.invokevirtual 180, 3) := by decide +kernel
theorem dX10_reasonByReplay_18 : decode cX10_reasonByReplay 18 = .ok (.goto 8, 3) := by decide +kernel
theorem dX10_reasonByReplay_21 : decode cX10_reasonByReplay 21 = .ok (.aload_n 0, 1) := by decide +kernel
theorem dX10_reasonByReplay_22 : decode cX10_reasonByReplay 22 = .ok (.iconst 1, 1) := by decide +kernel
theorem dX10_reasonByReplay_23 : decode cX10_reasonByReplay 23 = .ok (.invokevirtual 104, 3) := by decide +kernel
theorem dX10_reasonByReplay_26 : decode cX10_reasonByReplay 26 = .ok (.ireturn, 1) := by decide +kernel
theorem dX10_standing_0 : decode cX10_standing 0 = .ok (.iconst 0, 1) := by decide +kernel
theorem dX10_standing_1 : decode cX10_standing 1 = .ok (.istore_n 2, 1) := by decide +kernel
theorem dX10_standing_2 : decode cX10_standing 2 = .ok (.iconst 0, 1) := by decide +kernel
theorem dX10_standing_3 : decode cX10_standing 3 = .ok (.istore_n 3, 1) := by decide +kernel
theorem dX10_standing_4 : decode cX10_standing 4 = .ok (.iload_n 3, 1) := by decide +kernel
theorem dX10_standing_5 : decode cX10_standing 5 = .ok (.aload_n 0, 1) := by decide +kernel
theorem dX10_standing_6 : decode cX10_standing 6 = .ok (.getfield 98, 3) := by decide +kernel
theorem dX10_standing_9 : decode cX10_standing 9 = .ok (.if_icmp .ge 35, 3) := by decide +kernel
theorem dX10_standing_12 : decode cX10_standing 12 = .ok (.iload_n 2, 1) := by decide +kernel
theorem dX10_standing_13 : decode cX10_standing 13 = .ok (.aload_n 0, 1) := by decide +kernel
theorem dX10_standing_14 : decode cX10_standing 14 = .ok (.getfield 36, 3) := by decide +kernel
theorem dX10_standing_17 : decode cX10_standing 17 = .ok (.iload_n 3, 1) := by decide +kernel
theorem dX10_standing_18 : decode cX10_standing 18 = .ok (.iaload, 1) := by decide +kernel
theorem dX10_standing_19 : decode cX10_standing 19 = .ok (.iload_n 1, 1) := by decide +kernel
theorem dX10_standing_20 : decode cX10_standing 20 = .ok (.if_icmp .ne 15, 3) := by decide +kernel
theorem dX10_standing_23 : decode cX10_standing 23 = .ok (.aload_n 0, 1) := by decide +kernel
theorem dX10_standing_24 : decode cX10_standing 24 = .ok (.iload_n 3, 1) := by decide +kernel
theorem dX10_standing_25 : decode cX10_standing 25 = .ok (.invokevirtual 180, 3) := by decide +kernel
theorem dX10_standing_28 : decode cX10_standing 28 = .ok (.ifCond .ne 7, 3) := by decide +kernel
theorem dX10_standing_31 : decode cX10_standing 31 = .ok (.iconst 1, 1) := by decide +kernel
theorem dX10_standing_32 : decode cX10_standing 32 = .ok (.goto 4, 3) := by decide +kernel
theorem dX10_standing_35 : decode cX10_standing 35 = .ok (.iconst 0, 1) := by decide +kernel
theorem dX10_standing_36 : decode cX10_standing 36 = .ok (.iadd, 1) := by decide +kernel
theorem dX10_standing_37 : decode cX10_standing 37 = .ok (.istore_n 2, 1) := by decide +kernel
theorem dX10_standing_38 : decode cX10_standing 38 = .ok (.iinc 3 1, 3) := by decide +kernel
theorem dX10_standing_41 : decode cX10_standing 41 = .ok (.goto (-37), 3) := by decide +kernel
theorem dX10_standing_44 : decode cX10_standing 44 = .ok (.iload_n 2, 1) := by decide +kernel
theorem dX10_standing_45 : decode cX10_standing 45 = .ok (.ireturn, 1) := by decide +kernel
theorem dX10_ballotSize_0 : decode cX10_ballotSize 0 = .ok (.aload_n 0, 1) := by decide +kernel
theorem dX10_ballotSize_1 : decode cX10_ballotSize 1 = .ok (.iconst 0, 1) := by decide +kernel
theorem dX10_ballotSize_2 : decode cX10_ballotSize 2 = .ok (.putfield 85, 3) := by decide +kernel
theorem dX10_ballotSize_5 : decode cX10_ballotSize 5 = .ok (.aload_n 0, 1) := by decide +kernel
theorem dX10_ballotSize_6 : decode cX10_ballotSize 6 = .ok (.iload_n 1, 1) := by decide +kernel
theorem dX10_ballotSize_7 : decode cX10_ballotSize 7 = .ok (.invokevirtual 125, 3) := by decide +kernel
theorem dX10_ballotSize_10 : decode cX10_ballotSize 10 = .ok (.ifCond .eq 11, 3) := by decide +kernel
theorem dX10_ballotSize_13 : decode cX10_ballotSize 13 = .ok (.aload_n 0, 1) := by decide +kernel
theorem dX10_ballotSize_14 : decode cX10_ballotSize 14 = .ok (.iload_n 1, 1) := by decide +kernel
theorem dX10_ballotSize_15 : decode cX10_ballotSize 15 = .ok (.invokevirtual 183, 3) := by decide +kernel
theorem dX10_ballotSize_18 : decode cX10_ballotSize 18 = .ok (.goto 8, 3) := by decide +kernel
theorem dX10_ballotSize_21 : decode cX10_ballotSize 21 = .ok (.aload_n 0, 1) := by decide +kernel
theorem dX10_ballotSize_22 : decode cX10_ballotSize 22 = .ok (.iconst 1, 1) := by decide +kernel
theorem dX10_ballotSize_23 : decode cX10_ballotSize 23 = .ok (.invokevirtual 104, 3) := by decide +kernel
theorem dX10_ballotSize_26 : decode cX10_ballotSize 26 = .ok (.ireturn, 1) := by decide +kernel
theorem dX10_draw_0 : decode cX10_draw 0 = .ok (.aload_n 0, 1) := by decide +kernel
theorem dX10_draw_1 : decode cX10_draw 1 = .ok (.iconst 0, 1) := by decide +kernel
theorem dX10_draw_2 : decode cX10_draw 2 = .ok (.putfield 85, 3) := by decide +kernel
theorem dX10_draw_5 : decode cX10_draw 5 = .ok (.aload_n 0, 1) := by decide +kernel
theorem dX10_draw_6 : decode cX10_draw 6 = .ok (.invokevirtual 108, 3) := by decide +kernel
theorem dX10_draw_9 : decode cX10_draw 9 = .ok (.ifCond .ne 10, 3) := by decide +kernel
theorem dX10_draw_12 : decode cX10_draw 12 = .ok (.aload_n 0, 1) := by decide +kernel
theorem dX10_draw_13 : decode cX10_draw 13 = .ok (.getfield 186, 3) := by decide +kernel
theorem dX10_draw_16 : decode cX10_draw 16 = .ok (.ifCond .eq 10, 3) := by decide +kernel
theorem dX10_draw_19 : decode cX10_draw 19 = .ok (.aload_n 0, 1) := by decide +kernel
theorem dX10_draw_20 : decode cX10_draw 20 = .ok (.iconst 1, 1) := by decide +kernel
theorem dX10_draw_21 : decode cX10_draw 21 = .ok (.putfield 85, 3) := by decide +kernel
theorem dX10_draw_24 : decode cX10_draw 24 = .ok (.iconst 0, 1) := by decide +kernel
theorem dX10_draw_25 : decode cX10_draw 25 = .ok (.ireturn, 1) := by decide +kernel
theorem dX10_draw_26 : decode cX10_draw 26 = .ok (.iconst 0, 1) := by decide +kernel
theorem dX10_draw_27 : decode cX10_draw 27 = .ok (.istore_n 2, 1) := by decide +kernel
theorem dX10_draw_28 : decode cX10_draw 28 = .ok (.iload_n 2, 1) := by decide +kernel
theorem dX10_draw_29 : decode cX10_draw 29 = .ok (.bipush 26, 2) := by decide +kernel
theorem dX10_draw_31 : decode cX10_draw 31 = .ok (.if_icmp .ge 20, 3) := by decide +kernel
theorem dX10_draw_34 : decode cX10_draw 34 = .ok (.aload_n 0, 1) := by decide +kernel
theorem dX10_draw_35 : decode cX10_draw 35 = .ok (.getfield 76, 3) := by decide +kernel
theorem dX10_draw_38 : decode cX10_draw 38 = .ok (.iload_n 2, 1) := by decide +kernel
theorem dX10_draw_39 : decode cX10_draw 39 = .ok (.bipush 97, 2) := by decide +kernel
theorem dX10_draw_41 : decode cX10_draw 41 = .ok (.iload_n 2, 1) := by decide +kernel
theorem dX10_draw_42 : decode cX10_draw 42 = .ok (.iadd, 1) := by decide +kernel
theorem dX10_draw_43 : decode cX10_draw 43 = .ok (.i2c, 1) := by decide +kernel
theorem dX10_draw_44 : decode cX10_draw 44 = .ok (.castore, 1) := by decide +kernel
theorem dX10_draw_45 : decode cX10_draw 45 = .ok (.iinc 2 1, 3) := by decide +kernel
theorem dX10_draw_48 : decode cX10_draw 48 = .ok (.goto (-20), 3) := by decide +kernel
theorem dX10_draw_51 : decode cX10_draw 51 = .ok (.iload_n 1, 1) := by decide +kernel
theorem dX10_draw_52 : decode cX10_draw 52 = .ok (.istore_n 2, 1) := by decide +kernel
theorem dX10_draw_53 : decode cX10_draw 53 = .ok (.bipush 25, 2) := by decide +kernel
theorem dX10_draw_55 : decode cX10_draw 55 = .ok (.istore_n 3, 1) := by decide +kernel
theorem dX10_draw_56 : decode cX10_draw 56 = .ok (.iload_n 3, 1) := by decide +kernel
theorem dX10_draw_57 : decode cX10_draw 57 = .ok (.ifCond .le 58, 3) := by decide +kernel
theorem dX10_draw_60 : decode cX10_draw 60 = .ok (.iload_n 2, 1) := by decide +kernel
theorem dX10_draw_61 : decode cX10_draw 61 = .ok (.ldc 190, 2) := by decide +kernel
theorem dX10_draw_63 : decode cX10_draw 63 = .ok (.imul, 1) := by decide +kernel
theorem dX10_draw_64 : decode cX10_draw 64 = .ok (.sipush 12345, 3) := by decide +kernel
theorem dX10_draw_67 : decode cX10_draw 67 = .ok (.iadd, 1) := by decide +kernel
theorem dX10_draw_68 : decode cX10_draw 68 = .ok (.istore_n 2, 1) := by decide +kernel
theorem dX10_draw_69 : decode cX10_draw 69 = .ok (.iload_n 2, 1) := by decide +kernel
theorem dX10_draw_70 : decode cX10_draw 70 = .ok (.bipush 8, 2) := by decide +kernel
theorem dX10_draw_72 : decode cX10_draw 72 = .ok (.iushr, 1) := by decide +kernel
theorem dX10_draw_73 : decode cX10_draw 73 = .ok (.iload_n 3, 1) := by decide +kernel
theorem dX10_draw_74 : decode cX10_draw 74 = .ok (.iconst 1, 1) := by decide +kernel
theorem dX10_draw_75 : decode cX10_draw 75 = .ok (.iadd, 1) := by decide +kernel
theorem dX10_draw_76 : decode cX10_draw 76 = .ok (.irem, 1) := by decide +kernel
theorem dX10_draw_77 : decode cX10_draw 77 = .ok (.istore 4, 2) := by decide +kernel
theorem dX10_draw_79 : decode cX10_draw 79 = .ok (.aload_n 0, 1) := by decide +kernel
theorem dX10_draw_80 : decode cX10_draw 80 = .ok (.getfield 76, 3) := by decide +kernel
theorem dX10_draw_83 : decode cX10_draw 83 = .ok (.iload 4, 2) := by decide +kernel
theorem dX10_draw_85 : decode cX10_draw 85 = .ok (.caload, 1) := by decide +kernel
theorem dX10_draw_86 : decode cX10_draw 86 = .ok (.istore 5, 2) := by decide +kernel
theorem dX10_draw_88 : decode cX10_draw 88 = .ok (.aload_n 0, 1) := by decide +kernel
theorem dX10_draw_89 : decode cX10_draw 89 = .ok (.getfield 76, 3) := by decide +kernel
theorem dX10_draw_92 : decode cX10_draw 92 = .ok (.iload 4, 2) := by decide +kernel
theorem dX10_draw_94 : decode cX10_draw 94 = .ok (.aload_n 0, 1) := by decide +kernel
theorem dX10_draw_95 : decode cX10_draw 95 = .ok (.getfield 76, 3) := by decide +kernel
theorem dX10_draw_98 : decode cX10_draw 98 = .ok (.iload_n 3, 1) := by decide +kernel
theorem dX10_draw_99 : decode cX10_draw 99 = .ok (.caload, 1) := by decide +kernel
theorem dX10_draw_100 : decode cX10_draw 100 = .ok (.castore, 1) := by decide +kernel
theorem dX10_draw_101 : decode cX10_draw 101 = .ok (.aload_n 0, 1) := by decide +kernel
theorem dX10_draw_102 : decode cX10_draw 102 = .ok (.getfield 76, 3) := by decide +kernel
theorem dX10_draw_105 : decode cX10_draw 105 = .ok (.iload_n 3, 1) := by decide +kernel
theorem dX10_draw_106 : decode cX10_draw 106 = .ok (.iload 5, 2) := by decide +kernel
theorem dX10_draw_108 : decode cX10_draw 108 = .ok (.castore, 1) := by decide +kernel
theorem dX10_draw_109 : decode cX10_draw 109 = .ok (.iinc 3 (-1), 3) := by decide +kernel
theorem dX10_draw_112 : decode cX10_draw 112 = .ok (.goto (-56), 3) := by decide +kernel
theorem dX10_draw_115 : decode cX10_draw 115 = .ok (.aload_n 0, 1) := by decide +kernel
theorem dX10_draw_116 : decode cX10_draw 116 = .ok (.iconst 1, 1) := by decide +kernel
theorem dX10_draw_117 : decode cX10_draw 117 = .ok (.putfield 186, 3) := by decide +kernel
theorem dX10_draw_120 : decode cX10_draw 120 = .ok (.aload_n 0, 1) := by decide +kernel
theorem dX10_draw_121 : decode cX10_draw 121 = .ok (.getfield 76, 3) := by decide +kernel
theorem dX10_draw_124 : decode cX10_draw 124 = .ok (.iconst 0, 1) := by decide +kernel
theorem dX10_draw_125 : decode cX10_draw 125 = .ok (.caload, 1) := by decide +kernel
theorem dX10_draw_126 : decode cX10_draw 126 = .ok (.ireturn, 1) := by decide +kernel
theorem dX10_letter_0 : decode cX10_letter 0 = .ok (.aload_n 0, 1) := by decide +kernel
theorem dX10_letter_1 : decode cX10_letter 1 = .ok (.iconst 0, 1) := by decide +kernel
theorem dX10_letter_2 : decode cX10_letter 2 = .ok (.putfield 85, 3) := by decide +kernel
theorem dX10_letter_5 : decode cX10_letter 5 = .ok (.iload_n 1, 1) := by decide +kernel
theorem dX10_letter_6 : decode cX10_letter 6 = .ok (.iconst 0, 1) := by decide +kernel
theorem dX10_letter_7 : decode cX10_letter 7 = .ok (.bipush 25, 2) := by decide +kernel
theorem dX10_letter_9 : decode cX10_letter 9 = .ok (.invokestatic 91, 3) := by decide +kernel
theorem dX10_letter_12 : decode cX10_letter 12 = .ok (.ifCond .ne 10, 3) := by decide +kernel
theorem dX10_letter_15 : decode cX10_letter 15 = .ok (.aload_n 0, 1) := by decide +kernel
theorem dX10_letter_16 : decode cX10_letter 16 = .ok (.iconst 1, 1) := by decide +kernel
theorem dX10_letter_17 : decode cX10_letter 17 = .ok (.putfield 85, 3) := by decide +kernel
theorem dX10_letter_20 : decode cX10_letter 20 = .ok (.iconst 0, 1) := by decide +kernel
theorem dX10_letter_21 : decode cX10_letter 21 = .ok (.ireturn, 1) := by decide +kernel
theorem dX10_letter_22 : decode cX10_letter 22 = .ok (.aload_n 0, 1) := by decide +kernel
theorem dX10_letter_23 : decode cX10_letter 23 = .ok (.getfield 186, 3) := by decide +kernel
theorem dX10_letter_26 : decode cX10_letter 26 = .ok (.ifCond .ne 10, 3) := by decide +kernel
theorem dX10_letter_29 : decode cX10_letter 29 = .ok (.aload_n 0, 1) := by decide +kernel
theorem dX10_letter_30 : decode cX10_letter 30 = .ok (.iconst 2, 1) := by decide +kernel
theorem dX10_letter_31 : decode cX10_letter 31 = .ok (.putfield 85, 3) := by decide +kernel
theorem dX10_letter_34 : decode cX10_letter 34 = .ok (.iconst 0, 1) := by decide +kernel
theorem dX10_letter_35 : decode cX10_letter 35 = .ok (.ireturn, 1) := by decide +kernel
theorem dX10_letter_36 : decode cX10_letter 36 = .ok (.aload_n 0, 1) := by decide +kernel
theorem dX10_letter_37 : decode cX10_letter 37 = .ok (.getfield 76, 3) := by decide +kernel
theorem dX10_letter_40 : decode cX10_letter 40 = .ok (.iload_n 1, 1) := by decide +kernel
theorem dX10_letter_41 : decode cX10_letter 41 = .ok (.caload, 1) := by decide +kernel
theorem dX10_letter_42 : decode cX10_letter 42 = .ok (.ireturn, 1) := by decide +kernel
theorem dX10_rank_0 : decode cX10_rank 0 = .ok (.iconst 0, 1) := by decide +kernel
theorem dX10_rank_1 : decode cX10_rank 1 = .ok (.istore_n 2, 1) := by decide +kernel
theorem dX10_rank_2 : decode cX10_rank 2 = .ok (.iload_n 2, 1) := by decide +kernel
theorem dX10_rank_3 : decode cX10_rank 3 = .ok (.bipush 26, 2) := by decide +kernel
theorem dX10_rank_5 : decode cX10_rank 5 = .ok (.if_icmp .ge 21, 3) := by decide +kernel
theorem dX10_rank_8 : decode cX10_rank 8 = .ok (.aload_n 0, 1) := by decide +kernel
theorem dX10_rank_9 : decode cX10_rank 9 = .ok (.getfield 76, 3) := by decide +kernel
theorem dX10_rank_12 : decode cX10_rank 12 = .ok (.iload_n 2, 1) := by decide +kernel
theorem dX10_rank_13 : decode cX10_rank 13 = .ok (.caload, 1) := by decide +kernel
theorem dX10_rank_14 : decode cX10_rank 14 = .ok (.iload_n 1, 1) := by decide +kernel
theorem dX10_rank_15 : decode cX10_rank 15 = .ok (.if_icmp .ne 5, 3) := by decide +kernel
theorem dX10_rank_18 : decode cX10_rank 18 = .ok (.iload_n 2, 1) := by decide +kernel
theorem dX10_rank_19 : decode cX10_rank 19 = .ok (.ireturn, 1) := by decide +kernel
theorem dX10_rank_20 : decode cX10_rank 20 = .ok (.iinc 2 1, 3) := by decide +kernel
theorem dX10_rank_23 : decode cX10_rank 23 = .ok (.goto (-21), 3) := by decide +kernel
theorem dX10_rank_26 : decode cX10_rank 26 = .ok (.iconst (-1), 1) := by decide +kernel
theorem dX10_rank_27 : decode cX10_rank 27 = .ok (.ireturn, 1) := by decide +kernel
theorem dX10_isAhead_0 : decode cX10_isAhead 0 = .ok (.iconst 0, 1) := by decide +kernel
theorem dX10_isAhead_1 : decode cX10_isAhead 1 = .ok (.istore_n 3, 1) := by decide +kernel
theorem dX10_isAhead_2 : decode cX10_isAhead 2 = .ok (.iload_n 3, 1) := by decide +kernel
theorem dX10_isAhead_3 : decode cX10_isAhead 3 = .ok (.iconst 4, 1) := by decide +kernel
theorem dX10_isAhead_4 : decode cX10_isAhead 4 = .ok (.if_icmp .ge 61, 3) := by decide +kernel
theorem dX10_isAhead_7 : decode cX10_isAhead 7 = .ok (.aload_n 0, 1) := by decide +kernel
theorem dX10_isAhead_8 : decode cX10_isAhead 8 = .ok (.aload_n 0, 1) := by decide +kernel
theorem dX10_isAhead_9 : decode cX10_isAhead 9 = .ok (.getfield 42, 3) := by decide +kernel
theorem dX10_isAhead_12 : decode cX10_isAhead 12 = .ok (.iconst 4, 1) := by decide +kernel
theorem dX10_isAhead_13 : decode cX10_isAhead 13 = .ok (.iload_n 1, 1) := by decide +kernel
theorem dX10_isAhead_14 : decode cX10_isAhead 14 = .ok (.imul, 1) := by decide +kernel
theorem dX10_isAhead_15 : decode cX10_isAhead 15 = .ok (.iload_n 3, 1) := by decide +kernel
theorem dX10_isAhead_16 : decode cX10_isAhead 16 = .ok (.iadd, 1) := by decide +kernel
theorem dX10_isAhead_17 : decode cX10_isAhead 17 = .ok (.caload, 1) := by decide +kernel
theorem dX10_isAhead_18 : decode cX10_isAhead 18 = .ok (.invokevirtual 191, 3) := by decide +kernel
theorem dX10_isAhead_21 : decode cX10_isAhead 21 = .ok (.istore 4, 2) := by decide +kernel
theorem dX10_isAhead_23 : decode cX10_isAhead 23 = .ok (.aload_n 0, 1) := by decide +kernel
theorem dX10_isAhead_24 : decode cX10_isAhead 24 = .ok (.aload_n 0, 1) := by decide +kernel
theorem dX10_isAhead_25 : decode cX10_isAhead 25 = .ok (.getfield 42, 3) := by decide +kernel
theorem dX10_isAhead_28 : decode cX10_isAhead 28 = .ok (.iconst 4, 1) := by decide +kernel
theorem dX10_isAhead_29 : decode cX10_isAhead 29 = .ok (.iload_n 2, 1) := by decide +kernel
theorem dX10_isAhead_30 : decode cX10_isAhead 30 = .ok (.imul, 1) := by decide +kernel
theorem dX10_isAhead_31 : decode cX10_isAhead 31 = .ok (.iload_n 3, 1) := by decide +kernel
theorem dX10_isAhead_32 : decode cX10_isAhead 32 = .ok (.iadd, 1) := by decide +kernel
theorem dX10_isAhead_33 : decode cX10_isAhead 33 = .ok (.caload, 1) := by decide +kernel
theorem dX10_isAhead_34 : decode cX10_isAhead 34 = .ok (.invokevirtual 191, 3) := by decide +kernel
theorem dX10_isAhead_37 : decode cX10_isAhead 37 = .ok (.istore 5, 2) := by decide +kernel
theorem dX10_isAhead_39 : decode cX10_isAhead 39 = .ok (.iload 4, 2) := by decide +kernel
theorem dX10_isAhead_41 : decode cX10_isAhead 41 = .ok (.iload 5, 2) := by decide +kernel
theorem dX10_isAhead_43 : decode cX10_isAhead 43 = .ok (.if_icmp .eq 16, 3) := by decide +kernel
theorem dX10_isAhead_46 : decode cX10_isAhead 46 = .ok (.iload 4, 2) := by decide +kernel
theorem dX10_isAhead_48 : decode cX10_isAhead 48 = .ok (.iload 5, 2) := by decide +kernel
theorem dX10_isAhead_50 : decode cX10_isAhead 50 = .ok (.if_icmp .ge 7, 3) := by decide +kernel
theorem dX10_isAhead_53 : decode cX10_isAhead 53 = .ok (.iconst 1, 1) := by decide +kernel
theorem dX10_isAhead_54 : decode cX10_isAhead 54 = .ok (.goto 4, 3) := by decide +kernel
theorem dX10_isAhead_57 : decode cX10_isAhead 57 = .ok (.iconst 0, 1) := by decide +kernel
theorem dX10_isAhead_58 : decode cX10_isAhead 58 = .ok (.ireturn, 1) := by decide +kernel
theorem dX10_isAhead_59 : decode cX10_isAhead 59 = .ok (.iinc 3 1, 3) := by decide +kernel
theorem dX10_isAhead_62 : decode cX10_isAhead 62 = .ok (.goto (-60), 3) := by decide +kernel
theorem dX10_isAhead_65 : decode cX10_isAhead 65 = .ok (.iload_n 1, 1) := by decide +kernel
theorem dX10_isAhead_66 : decode cX10_isAhead 66 = .ok (.iload_n 2, 1) := by decide +kernel
theorem dX10_isAhead_67 : decode cX10_isAhead 67 = .ok (.if_icmp .ge 7, 3) := by decide +kernel
theorem dX10_isAhead_70 : decode cX10_isAhead 70 = .ok (.iconst 1, 1) := by decide +kernel
theorem dX10_isAhead_71 : decode cX10_isAhead 71 = .ok (.goto 4, 3) := by decide +kernel
theorem dX10_isAhead_74 : decode cX10_isAhead 74 = .ok (.iconst 0, 1) := by decide +kernel
theorem dX10_isAhead_75 : decode cX10_isAhead 75 = .ok (.ireturn, 1) := by decide +kernel
theorem dX10_laid_0 : decode cX10_laid 0 = .ok (.iconst 0, 1) := by decide +kernel
theorem dX10_laid_1 : decode cX10_laid 1 = .ok (.istore_n 2, 1) := by decide +kernel
theorem dX10_laid_2 : decode cX10_laid 2 = .ok (.iconst 0, 1) := by decide +kernel
theorem dX10_laid_3 : decode cX10_laid 3 = .ok (.istore_n 3, 1) := by decide +kernel
theorem dX10_laid_4 : decode cX10_laid 4 = .ok (.iload_n 3, 1) := by decide +kernel
theorem dX10_laid_5 : decode cX10_laid 5 = .ok (.aload_n 0, 1) := by decide +kernel
theorem dX10_laid_6 : decode cX10_laid 6 = .ok (.getfield 98, 3) := by decide +kernel
theorem dX10_laid_9 : decode cX10_laid 9 = .ok (.if_icmp .ge 85, 3) := by decide +kernel
theorem dX10_laid_12 : decode cX10_laid 12 = .ok (.aload_n 0, 1) := by decide +kernel
theorem dX10_laid_13 : decode cX10_laid 13 = .ok (.getfield 36, 3) := by decide +kernel
theorem dX10_laid_16 : decode cX10_laid 16 = .ok (.iload_n 3, 1) := by decide +kernel
theorem dX10_laid_17 : decode cX10_laid 17 = .ok (.iaload, 1) := by decide +kernel
theorem dX10_laid_18 : decode cX10_laid 18 = .ok (.iload_n 1, 1) := by decide +kernel
theorem dX10_laid_19 : decode cX10_laid 19 = .ok (.if_icmp .ne 69, 3) := by decide +kernel
theorem dX10_laid_22 : decode cX10_laid 22 = .ok (.aload_n 0, 1) := by decide +kernel
theorem dX10_laid_23 : decode cX10_laid 23 = .ok (.iload_n 3, 1) := by decide +kernel
theorem dX10_laid_24 : decode cX10_laid 24 = .ok (.invokevirtual 180, 3) := by decide +kernel
theorem dX10_laid_27 : decode cX10_laid 27 = .ok (.ifCond .ne 61, 3) := by decide +kernel
theorem dX10_laid_30 : decode cX10_laid 30 = .ok (.iload_n 2, 1) := by decide +kernel
theorem dX10_laid_31 : decode cX10_laid 31 = .ok (.istore 4, 2) := by decide +kernel
theorem dX10_laid_33 : decode cX10_laid 33 = .ok (.iload 4, 2) := by decide +kernel
theorem dX10_laid_35 : decode cX10_laid 35 = .ok (.ifCond .le 42, 3) := by decide +kernel
theorem dX10_laid_38 : decode cX10_laid 38 = .ok (.aload_n 0, 1) := by decide +kernel
theorem dX10_laid_39 : decode cX10_laid 39 = .ok (.iload_n 3, 1) := by decide +kernel
theorem dX10_laid_40 : decode cX10_laid 40 = .ok (.aload_n 0, 1) := by decide +kernel
theorem dX10_laid_41 : decode cX10_laid 41 = .ok (.getfield 79, 3) := by decide +kernel
theorem dX10_laid_44 : decode cX10_laid 44 = .ok (.iload 4, 2) := by decide +kernel
theorem dX10_laid_46 : decode cX10_laid 46 = .ok (.iconst 1, 1) := by decide +kernel
theorem dX10_laid_47 : decode cX10_laid 47 = .ok (.isub, 1) := by decide +kernel
theorem dX10_laid_48 : decode cX10_laid 48 = .ok (.iaload, 1) := by decide +kernel
theorem dX10_laid_49 : decode cX10_laid 49 = .ok (.invokevirtual 195, 3) := by decide +kernel
theorem dX10_laid_52 : decode cX10_laid 52 = .ok (.ifCond .eq 25, 3) := by decide +kernel
theorem dX10_laid_55 : decode cX10_laid 55 = .ok (.aload_n 0, 1) := by decide +kernel
theorem dX10_laid_56 : decode cX10_laid 56 = .ok (.getfield 79, 3) := by decide +kernel
theorem dX10_laid_59 : decode cX10_laid 59 = .ok (.iload 4, 2) := by decide +kernel
theorem dX10_laid_61 : decode cX10_laid 61 = .ok (.aload_n 0, 1) := by decide +kernel
theorem dX10_laid_62 : decode cX10_laid 62 = .ok (.getfield 79, 3) := by decide +kernel
theorem dX10_laid_65 : decode cX10_laid 65 = .ok (.iload 4, 2) := by decide +kernel
theorem dX10_laid_67 : decode cX10_laid 67 = .ok (.iconst 1, 1) := by decide +kernel
theorem dX10_laid_68 : decode cX10_laid 68 = .ok (.isub, 1) := by decide +kernel
theorem dX10_laid_69 : decode cX10_laid 69 = .ok (.iaload, 1) := by decide +kernel
theorem dX10_laid_70 : decode cX10_laid 70 = .ok (.iastore, 1) := by decide +kernel
theorem dX10_laid_71 : decode cX10_laid 71 = .ok (.iinc 4 (-1), 3) := by decide +kernel
theorem dX10_laid_74 : decode cX10_laid 74 = .ok (.goto (-41), 3) := by decide +kernel
theorem dX10_laid_77 : decode cX10_laid 77 = .ok (.aload_n 0, 1) := by decide +kernel
theorem dX10_laid_78 : decode cX10_laid 78 = .ok (.getfield 79, 3) := by decide +kernel
theorem dX10_laid_81 : decode cX10_laid 81 = .ok (.iload 4, 2) := by decide +kernel
theorem dX10_laid_83 : decode cX10_laid 83 = .ok (.iload_n 3, 1) := by decide +kernel
theorem dX10_laid_84 : decode cX10_laid 84 = .ok (.iastore, 1) := by decide +kernel
theorem dX10_laid_85 : decode cX10_laid 85 = .ok (.iinc 2 1, 3) := by decide +kernel
theorem dX10_laid_88 : decode cX10_laid 88 = .ok (.iinc 3 1, 3) := by decide +kernel
theorem dX10_laid_91 : decode cX10_laid 91 = .ok (.goto (-87), 3) := by decide +kernel
theorem dX10_laid_94 : decode cX10_laid 94 = .ok (.iload_n 2, 1) := by decide +kernel
theorem dX10_laid_95 : decode cX10_laid 95 = .ok (.ireturn, 1) := by decide +kernel
theorem dX10_ballot_0 : decode cX10_ballot 0 = .ok (.aload_n 0, 1) := by decide +kernel
theorem dX10_ballot_1 : decode cX10_ballot 1 = .ok (.iconst 0, 1) := by decide +kernel
theorem dX10_ballot_2 : decode cX10_ballot 2 = .ok (.putfield 85, 3) := by decide +kernel
theorem dX10_ballot_5 : decode cX10_ballot 5 = .ok (.aload_n 0, 1) := by decide +kernel
theorem dX10_ballot_6 : decode cX10_ballot 6 = .ok (.iload_n 1, 1) := by decide +kernel
theorem dX10_ballot_7 : decode cX10_ballot 7 = .ok (.invokevirtual 125, 3) := by decide +kernel
theorem dX10_ballot_10 : decode cX10_ballot 10 = .ok (.ifCond .ne 9, 3) := by decide +kernel
theorem dX10_ballot_13 : decode cX10_ballot 13 = .ok (.aload_n 0, 1) := by decide +kernel
theorem dX10_ballot_14 : decode cX10_ballot 14 = .ok (.iconst 1, 1) := by decide +kernel
theorem dX10_ballot_15 : decode cX10_ballot 15 = .ok (.invokevirtual 104, 3) := by decide +kernel
theorem dX10_ballot_18 : decode cX10_ballot 18 = .ok (.ireturn, 1) := by decide +kernel
theorem dX10_ballot_19 : decode cX10_ballot 19 = .ok (.iload_n 2, 1) := by decide +kernel
theorem dX10_ballot_20 : decode cX10_ballot 20 = .ok (.iconst 0, 1) := by decide +kernel
theorem dX10_ballot_21 : decode cX10_ballot 21 = .ok (.sipush 999, 3) := by decide +kernel
theorem dX10_ballot_24 : decode cX10_ballot 24 = .ok (.invokestatic 91, 3) := by decide +kernel
theorem dX10_ballot_27 : decode cX10_ballot 27 = .ok (.ifCond .ne 9, 3) := by decide +kernel
theorem dX10_ballot_30 : decode cX10_ballot 30 = .ok (.aload_n 0, 1) := by decide +kernel
theorem dX10_ballot_31 : decode cX10_ballot 31 = .ok (.iconst 2, 1) := by decide +kernel
theorem dX10_ballot_32 : decode cX10_ballot 32 = .ok (.invokevirtual 104, 3) := by decide +kernel
theorem dX10_ballot_35 : decode cX10_ballot 35 = .ok (.ireturn, 1) := by decide +kernel
theorem dX10_ballot_36 : decode cX10_ballot 36 = .ok (.aload_n 0, 1) := by decide +kernel
theorem dX10_ballot_37 : decode cX10_ballot 37 = .ok (.getfield 186, 3) := by decide +kernel
theorem dX10_ballot_40 : decode cX10_ballot 40 = .ok (.ifCond .ne 9, 3) := by decide +kernel
theorem dX10_ballot_43 : decode cX10_ballot 43 = .ok (.aload_n 0, 1) := by decide +kernel
theorem dX10_ballot_44 : decode cX10_ballot 44 = .ok (.iconst 3, 1) := by decide +kernel
theorem dX10_ballot_45 : decode cX10_ballot 45 = .ok (.invokevirtual 104, 3) := by decide +kernel
theorem dX10_ballot_48 : decode cX10_ballot 48 = .ok (.ireturn, 1) := by decide +kernel
theorem dX10_ballot_49 : decode cX10_ballot 49 = .ok (.aload_n 0, 1) := by decide +kernel
theorem dX10_ballot_50 : decode cX10_ballot 50 = .ok (.iload_n 1, 1) := by decide +kernel
theorem dX10_ballot_51 : decode cX10_ballot 51 = .ok (.invokevirtual 198, 3) := by decide +kernel
theorem dX10_ballot_54 : decode cX10_ballot 54 = .ok (.istore 4, 2) := by decide +kernel
theorem dX10_ballot_56 : decode cX10_ballot 56 = .ok (.iload_n 3, 1) := by decide +kernel
theorem dX10_ballot_57 : decode cX10_ballot 57 = .ok (.iconst 0, 1) := by decide +kernel
theorem dX10_ballot_58 : decode cX10_ballot 58 = .ok (.iload 4, 2) := by decide +kernel
theorem dX10_ballot_60 : decode cX10_ballot 60 = .ok (.iconst 1, 1) := by decide +kernel
theorem dX10_ballot_61 : decode cX10_ballot 61 = .ok (.isub, 1) := by decide +kernel
theorem dX10_ballot_62 : decode cX10_ballot 62 = .ok (.invokestatic 91, 3) := by decide +kernel
theorem dX10_ballot_65 : decode cX10_ballot 65 = .ok (.ifCond .eq 20, 3) := by decide +kernel
theorem dX10_ballot_68 : decode cX10_ballot 68 = .ok (.aload_n 0, 1) := by decide +kernel
theorem dX10_ballot_69 : decode cX10_ballot 69 = .ok (.getfield 79, 3) := by decide +kernel
theorem dX10_ballot_72 : decode cX10_ballot 72 = .ok (.iload_n 2, 1) := by decide +kernel
theorem dX10_ballot_73 : decode cX10_ballot 73 = .ok (.iload 4, 2) := by decide +kernel
theorem dX10_ballot_75 : decode cX10_ballot 75 = .ok (.irem, 1) := by decide +kernel
theorem dX10_ballot_76 : decode cX10_ballot 76 = .ok (.iload_n 3, 1) := by decide +kernel
theorem dX10_ballot_77 : decode cX10_ballot 77 = .ok (.iadd, 1) := by decide +kernel
theorem dX10_ballot_78 : decode cX10_ballot 78 = .ok (.iload 4, 2) := by decide +kernel
theorem dX10_ballot_80 : decode cX10_ballot 80 = .ok (.irem, 1) := by decide +kernel
theorem dX10_ballot_81 : decode cX10_ballot 81 = .ok (.iaload, 1) := by decide +kernel
theorem dX10_ballot_82 : decode cX10_ballot 82 = .ok (.goto 8, 3) := by decide +kernel
theorem dX10_ballot_85 : decode cX10_ballot 85 = .ok (.aload_n 0, 1) := by decide +kernel
theorem dX10_ballot_86 : decode cX10_ballot 86 = .ok (.iconst 4, 1) := by decide +kernel
theorem dX10_ballot_87 : decode cX10_ballot 87 = .ok (.invokevirtual 104, 3) := by decide +kernel
theorem dX10_ballot_90 : decode cX10_ballot 90 = .ok (.ireturn, 1) := by decide +kernel
theorem dX10_placeOnBallot_0 : decode cX10_placeOnBallot 0 = .ok (.aload_n 0, 1) := by decide +kernel
theorem dX10_placeOnBallot_1 : decode cX10_placeOnBallot 1 = .ok (.iconst 0, 1) := by decide +kernel
theorem dX10_placeOnBallot_2 : decode cX10_placeOnBallot 2 = .ok (.putfield 85, 3) := by decide +kernel
theorem dX10_placeOnBallot_5 : decode cX10_placeOnBallot 5 = .ok (.aload_n 0, 1) := by decide +kernel
theorem dX10_placeOnBallot_6 : decode cX10_placeOnBallot 6 = .ok (.iload_n 1, 1) := by decide +kernel
theorem dX10_placeOnBallot_7 : decode cX10_placeOnBallot 7 = .ok (.invokevirtual 152, 3) := by decide +kernel
theorem dX10_placeOnBallot_10 : decode cX10_placeOnBallot 10 = .ok (.ifCond .ne 9, 3) := by decide +kernel
theorem dX10_placeOnBallot_13 : decode cX10_placeOnBallot 13 = .ok (.aload_n 0, 1) := by decide +kernel
theorem dX10_placeOnBallot_14 : decode cX10_placeOnBallot 14 = .ok (.iconst 1, 1) := by decide +kernel
theorem dX10_placeOnBallot_15 : decode cX10_placeOnBallot 15 = .ok (.invokevirtual 104, 3) := by decide +kernel
theorem dX10_placeOnBallot_18 : decode cX10_placeOnBallot 18 = .ok (.ireturn, 1) := by decide +kernel
theorem dX10_placeOnBallot_19 : decode cX10_placeOnBallot 19 = .ok (.iload_n 2, 1) := by decide +kernel
theorem dX10_placeOnBallot_20 : decode cX10_placeOnBallot 20 = .ok (.iconst 0, 1) := by decide +kernel
theorem dX10_placeOnBallot_21 : decode cX10_placeOnBallot 21 = .ok (.sipush 999, 3) := by decide +kernel
theorem dX10_placeOnBallot_24 : decode cX10_placeOnBallot 24 = .ok (.invokestatic 91, 3) := by decide +kernel
theorem dX10_placeOnBallot_27 : decode cX10_placeOnBallot 27 = .ok (.ifCond .ne 9, 3) := by decide +kernel
theorem dX10_placeOnBallot_30 : decode cX10_placeOnBallot 30 = .ok (.aload_n 0, 1) := by decide +kernel
theorem dX10_placeOnBallot_31 : decode cX10_placeOnBallot 31 = .ok (.iconst 2, 1) := by decide +kernel
theorem dX10_placeOnBallot_32 : decode cX10_placeOnBallot 32 = .ok (.invokevirtual 104, 3) := by decide +kernel
theorem dX10_placeOnBallot_35 : decode cX10_placeOnBallot 35 = .ok (.ireturn, 1) := by decide +kernel
theorem dX10_placeOnBallot_36 : decode cX10_placeOnBallot 36 = .ok (.aload_n 0, 1) := by decide +kernel
theorem dX10_placeOnBallot_37 : decode cX10_placeOnBallot 37 = .ok (.getfield 186, 3) := by decide +kernel
theorem dX10_placeOnBallot_40 : decode cX10_placeOnBallot 40 = .ok (.ifCond .eq 11, 3) := by decide +kernel
theorem dX10_placeOnBallot_43 : decode cX10_placeOnBallot 43 = .ok (.aload_n 0, 1) := by decide +kernel
theorem dX10_placeOnBallot_44 : decode cX10_placeOnBallot 44 = .ok (.iload_n 1, 1) := by decide +kernel
theorem dX10_placeOnBallot_45 : decode cX10_placeOnBallot 45 = .ok (.invokevirtual 180, 3) := by decide +kernel
theorem dX10_placeOnBallot_48 : decode cX10_placeOnBallot 48 = .ok (.ifCond .eq 9, 3) := by decide +kernel
theorem dX10_placeOnBallot_51 : decode cX10_placeOnBallot 51 = .ok (.aload_n 0, 1) := by decide +kernel
theorem dX10_placeOnBallot_52 : decode cX10_placeOnBallot 52 = .ok (.iconst 3, 1) := by decide +kernel
theorem dX10_placeOnBallot_53 : decode cX10_placeOnBallot 53 = .ok (.invokevirtual 104, 3) := by decide +kernel
theorem dX10_placeOnBallot_56 : decode cX10_placeOnBallot 56 = .ok (.ireturn, 1) := by decide +kernel
theorem dX10_placeOnBallot_57 : decode cX10_placeOnBallot 57 = .ok (.aload_n 0, 1) := by decide +kernel
theorem dX10_placeOnBallot_58 : decode cX10_placeOnBallot 58 = .ok (.aload_n 0, 1) := by decide +kernel
theorem dX10_placeOnBallot_59 : decode cX10_placeOnBallot 59 = .ok (.getfield 36, 3) := by decide +kernel
theorem dX10_placeOnBallot_62 : decode cX10_placeOnBallot 62 = .ok (.iload_n 1, 1) := by decide +kernel
theorem dX10_placeOnBallot_63 : decode cX10_placeOnBallot 63 = .ok (.iaload, 1) := by decide +kernel
theorem dX10_placeOnBallot_64 : decode cX10_placeOnBallot 64 = .ok (.invokevirtual 198, 3) := by decide +kernel
theorem dX10_placeOnBallot_67 : decode cX10_placeOnBallot 67 = .ok (.istore_n 3, 1) := by decide +kernel
theorem dX10_placeOnBallot_68 : decode cX10_placeOnBallot 68 = .ok (.iconst 0, 1) := by decide +kernel
theorem dX10_placeOnBallot_69 : decode cX10_placeOnBallot 69 = .ok (.istore 4, 2) := by decide +kernel
theorem dX10_placeOnBallot_71 : decode cX10_placeOnBallot 71 = .ok (.aload_n 0, 1) := by decide +kernel
theorem dX10_placeOnBallot_72 : decode cX10_placeOnBallot 72 = .ok (.getfield 79, 3) := by decide +kernel
theorem dX10_placeOnBallot_75 : decode cX10_placeOnBallot 75 = .ok (.iload 4, 2) := by decide +kernel
theorem dX10_placeOnBallot_77 : decode cX10_placeOnBallot 77 = .ok (.iaload, 1) := by decide +kernel
theorem dX10_placeOnBallot_78 : decode cX10_placeOnBallot 78 = .ok (.iload_n 1, 1) := by decide +kernel
theorem dX10_placeOnBallot_79 : decode cX10_placeOnBallot 79 = .ok (.if_icmp .eq 9, 3) := by decide +kernel
theorem dX10_placeOnBallot_82 : decode cX10_placeOnBallot 82 = .ok (.iinc 4 1, 3) := by decide +kernel
theorem dX10_placeOnBallot_85 : decode cX10_placeOnBallot 85 = .ok (.goto (-14), 3) := by decide +kernel
theorem dX10_placeOnBallot_88 : decode cX10_placeOnBallot 88 = .ok (.iload 4, 2) := by decide +kernel
theorem dX10_placeOnBallot_90 : decode cX10_placeOnBallot 90 = .ok (.iload_n 3, 1) := by decide +kernel
theorem dX10_placeOnBallot_91 : decode cX10_placeOnBallot 91 = .ok (.iadd, 1) := by decide +kernel
theorem dX10_placeOnBallot_92 : decode cX10_placeOnBallot 92 = .ok (.iload_n 2, 1) := by decide +kernel
theorem dX10_placeOnBallot_93 : decode cX10_placeOnBallot 93 = .ok (.iload_n 3, 1) := by decide +kernel
theorem dX10_placeOnBallot_94 : decode cX10_placeOnBallot 94 = .ok (.irem, 1) := by decide +kernel
theorem dX10_placeOnBallot_95 : decode cX10_placeOnBallot 95 = .ok (.isub, 1) := by decide +kernel
theorem dX10_placeOnBallot_96 : decode cX10_placeOnBallot 96 = .ok (.iload_n 3, 1) := by decide +kernel
theorem dX10_placeOnBallot_97 : decode cX10_placeOnBallot 97 = .ok (.irem, 1) := by decide +kernel
theorem dX10_placeOnBallot_98 : decode cX10_placeOnBallot 98 = .ok (.ireturn, 1) := by decide +kernel
theorem dX10_addVotes_0 : decode cX10_addVotes 0 = .ok (.aload_n 0, 1) := by decide +kernel
theorem dX10_addVotes_1 : decode cX10_addVotes 1 = .ok (.iconst 0, 1) := by decide +kernel
theorem dX10_addVotes_2 : decode cX10_addVotes 2 = .ok (.putfield 85, 3) := by decide +kernel
theorem dX10_addVotes_5 : decode cX10_addVotes 5 = .ok (.aload_n 0, 1) := by decide +kernel
theorem dX10_addVotes_6 : decode cX10_addVotes 6 = .ok (.iload_n 1, 1) := by decide +kernel
theorem dX10_addVotes_7 : decode cX10_addVotes 7 = .ok (.invokevirtual 152, 3) := by decide +kernel
theorem dX10_addVotes_10 : decode cX10_addVotes 10 = .ok (.ifCond .ne 9, 3) := by decide +kernel
theorem dX10_addVotes_13 : decode cX10_addVotes 13 = .ok (.aload_n 0, 1) := by decide +kernel
theorem dX10_addVotes_14 : decode cX10_addVotes 14 = .ok (.iconst 1, 1) := by decide +kernel
theorem dX10_addVotes_15 : decode cX10_addVotes 15 = .ok (.invokevirtual 104, 3) := by decide +kernel
theorem dX10_addVotes_18 : decode cX10_addVotes 18 = .ok (.ireturn, 1) := by decide +kernel
theorem dX10_addVotes_19 : decode cX10_addVotes 19 = .ok (.iload_n 2, 1) := by decide +kernel
theorem dX10_addVotes_20 : decode cX10_addVotes 20 = .ok (.iconst 1, 1) := by decide +kernel
theorem dX10_addVotes_21 : decode cX10_addVotes 21 = .ok (.sipush 10000, 3) := by decide +kernel
theorem dX10_addVotes_24 : decode cX10_addVotes 24 = .ok (.invokestatic 91, 3) := by decide +kernel
theorem dX10_addVotes_27 : decode cX10_addVotes 27 = .ok (.ifCond .ne 9, 3) := by decide +kernel
theorem dX10_addVotes_30 : decode cX10_addVotes 30 = .ok (.aload_n 0, 1) := by decide +kernel
theorem dX10_addVotes_31 : decode cX10_addVotes 31 = .ok (.iconst 2, 1) := by decide +kernel
theorem dX10_addVotes_32 : decode cX10_addVotes 32 = .ok (.invokevirtual 104, 3) := by decide +kernel
theorem dX10_addVotes_35 : decode cX10_addVotes 35 = .ok (.ireturn, 1) := by decide +kernel
theorem dX10_addVotes_36 : decode cX10_addVotes 36 = .ok (.aload_n 0, 1) := by decide +kernel
theorem dX10_addVotes_37 : decode cX10_addVotes 37 = .ok (.getfield 101, 3) := by decide +kernel
theorem dX10_addVotes_40 : decode cX10_addVotes 40 = .ok (.aload_n 0, 1) := by decide +kernel
theorem dX10_addVotes_41 : decode cX10_addVotes 41 = .ok (.getfield 16, 3) := by decide +kernel
theorem dX10_addVotes_44 : decode cX10_addVotes 44 = .ok (.if_icmp .lt 25, 3) := by decide +kernel
theorem dX10_addVotes_47 : decode cX10_addVotes 47 = .ok (.aload_n 0, 1) := by decide +kernel
theorem dX10_addVotes_48 : decode cX10_addVotes 48 = .ok (.iload_n 1, 1) := by decide +kernel
theorem dX10_addVotes_49 : decode cX10_addVotes 49 = .ok (.invokevirtual 180, 3) := by decide +kernel
theorem dX10_addVotes_52 : decode cX10_addVotes 52 = .ok (.ifCond .ne 17, 3) := by decide +kernel
theorem dX10_addVotes_55 : decode cX10_addVotes 55 = .ok (.aload_n 0, 1) := by decide +kernel
theorem dX10_addVotes_56 : decode cX10_addVotes 56 = .ok (.getfield 26, 3) := by decide +kernel
theorem dX10_addVotes_59 : decode cX10_addVotes 59 = .ok (.aload_n 0, 1) := by decide +kernel
theorem dX10_addVotes_60 : decode cX10_addVotes 60 = .ok (.getfield 36, 3) := by decide +kernel
theorem dX10_addVotes_63 : decode cX10_addVotes 63 = .ok (.iload_n 1, 1) := by decide +kernel
theorem dX10_addVotes_64 : decode cX10_addVotes 64 = .ok (.iaload, 1) := by decide +kernel
theorem dX10_addVotes_65 : decode cX10_addVotes 65 = .ok (.baload, 1) := by decide +kernel
theorem dX10_addVotes_66 : decode cX10_addVotes 66 = .ok (.ifCond .eq 9, 3) := by decide +kernel
theorem dX10_addVotes_69 : decode cX10_addVotes 69 = .ok (.aload_n 0, 1) := by decide +kernel
theorem dX10_addVotes_70 : decode cX10_addVotes 70 = .ok (.iconst 3, 1) := by decide +kernel
theorem dX10_addVotes_71 : decode cX10_addVotes 71 = .ok (.invokevirtual 104, 3) := by decide +kernel
theorem dX10_addVotes_74 : decode cX10_addVotes 74 = .ok (.ireturn, 1) := by decide +kernel
theorem dX10_addVotes_75 : decode cX10_addVotes 75 = .ok (.aload_n 0, 1) := by decide +kernel
theorem dX10_addVotes_76 : decode cX10_addVotes 76 = .ok (.getfield 58, 3) := by decide +kernel
theorem dX10_addVotes_79 : decode cX10_addVotes 79 = .ok (.iload_n 1, 1) := by decide +kernel
theorem dX10_addVotes_80 : decode cX10_addVotes 80 = .ok (.dup2, 1) := by decide +kernel
theorem dX10_addVotes_81 : decode cX10_addVotes 81 = .ok (.iaload, 1) := by decide +kernel
theorem dX10_addVotes_82 : decode cX10_addVotes 82 = .ok (.iload_n 2, 1) := by decide +kernel
theorem dX10_addVotes_83 : decode cX10_addVotes 83 = .ok (.iadd, 1) := by decide +kernel
theorem dX10_addVotes_84 : decode cX10_addVotes 84 = .ok (.iastore, 1) := by decide +kernel
theorem dX10_addVotes_85 : decode cX10_addVotes 85 = .ok (.aload_n 0, 1) := by decide +kernel
theorem dX10_addVotes_86 : decode cX10_addVotes 86 = .ok (.getfield 58, 3) := by decide +kernel
theorem dX10_addVotes_89 : decode cX10_addVotes 89 = .ok (.iload_n 1, 1) := by decide +kernel
theorem dX10_addVotes_90 : decode cX10_addVotes 90 = .ok (.iaload, 1) := by decide +kernel
theorem dX10_addVotes_91 : decode cX10_addVotes 91 = .ok (.ireturn, 1) := by decide +kernel
theorem dX10_finish_0 : decode cX10_finish 0 = .ok (.aload_n 0, 1) := by decide +kernel
theorem dX10_finish_1 : decode cX10_finish 1 = .ok (.iconst 0, 1) := by decide +kernel
theorem dX10_finish_2 : decode cX10_finish 2 = .ok (.putfield 85, 3) := by decide +kernel
theorem dX10_finish_5 : decode cX10_finish 5 = .ok (.aload_n 0, 1) := by decide +kernel
theorem dX10_finish_6 : decode cX10_finish 6 = .ok (.iload_n 1, 1) := by decide +kernel
theorem dX10_finish_7 : decode cX10_finish 7 = .ok (.invokevirtual 125, 3) := by decide +kernel
theorem dX10_finish_10 : decode cX10_finish 10 = .ok (.ifCond .ne 9, 3) := by decide +kernel
theorem dX10_finish_13 : decode cX10_finish 13 = .ok (.aload_n 0, 1) := by decide +kernel
theorem dX10_finish_14 : decode cX10_finish 14 = .ok (.iconst 1, 1) := by decide +kernel
theorem dX10_finish_15 : decode cX10_finish 15 = .ok (.invokevirtual 104, 3) := by decide +kernel
theorem dX10_finish_18 : decode cX10_finish 18 = .ok (.ireturn, 1) := by decide +kernel
theorem dX10_finish_19 : decode cX10_finish 19 = .ok (.aload_n 0, 1) := by decide +kernel
theorem dX10_finish_20 : decode cX10_finish 20 = .ok (.getfield 101, 3) := by decide +kernel
theorem dX10_finish_23 : decode cX10_finish 23 = .ok (.aload_n 0, 1) := by decide +kernel
theorem dX10_finish_24 : decode cX10_finish 24 = .ok (.getfield 16, 3) := by decide +kernel
theorem dX10_finish_27 : decode cX10_finish 27 = .ok (.if_icmp .lt 12, 3) := by decide +kernel
theorem dX10_finish_30 : decode cX10_finish 30 = .ok (.aload_n 0, 1) := by decide +kernel
theorem dX10_finish_31 : decode cX10_finish 31 = .ok (.getfield 26, 3) := by decide +kernel
theorem dX10_finish_34 : decode cX10_finish 34 = .ok (.iload_n 1, 1) := by decide +kernel
theorem dX10_finish_35 : decode cX10_finish 35 = .ok (.baload, 1) := by decide +kernel
theorem dX10_finish_36 : decode cX10_finish 36 = .ok (.ifCond .eq 9, 3) := by decide +kernel
theorem dX10_finish_39 : decode cX10_finish 39 = .ok (.aload_n 0, 1) := by decide +kernel
theorem dX10_finish_40 : decode cX10_finish 40 = .ok (.iconst 2, 1) := by decide +kernel
theorem dX10_finish_41 : decode cX10_finish 41 = .ok (.invokevirtual 104, 3) := by decide +kernel
theorem dX10_finish_44 : decode cX10_finish 44 = .ok (.ireturn, 1) := by decide +kernel
theorem dX10_finish_45 : decode cX10_finish 45 = .ok (.aload_n 0, 1) := by decide +kernel
theorem dX10_finish_46 : decode cX10_finish 46 = .ok (.getfield 26, 3) := by decide +kernel
theorem dX10_finish_49 : decode cX10_finish 49 = .ok (.iload_n 1, 1) := by decide +kernel
theorem dX10_finish_50 : decode cX10_finish 50 = .ok (.iconst 1, 1) := by decide +kernel
theorem dX10_finish_51 : decode cX10_finish 51 = .ok (.bastore, 1) := by decide +kernel
theorem dX10_finish_52 : decode cX10_finish 52 = .ok (.iconst 0, 1) := by decide +kernel
theorem dX10_finish_53 : decode cX10_finish 53 = .ok (.istore_n 2, 1) := by decide +kernel
theorem dX10_finish_54 : decode cX10_finish 54 = .ok (.iconst 0, 1) := by decide +kernel
theorem dX10_finish_55 : decode cX10_finish 55 = .ok (.istore_n 3, 1) := by decide +kernel
theorem dX10_finish_56 : decode cX10_finish 56 = .ok (.iload_n 3, 1) := by decide +kernel
theorem dX10_finish_57 : decode cX10_finish 57 = .ok (.aload_n 0, 1) := by decide +kernel
theorem dX10_finish_58 : decode cX10_finish 58 = .ok (.getfield 98, 3) := by decide +kernel
theorem dX10_finish_61 : decode cX10_finish 61 = .ok (.if_icmp .ge 44, 3) := by decide +kernel
theorem dX10_finish_64 : decode cX10_finish 64 = .ok (.iload_n 2, 1) := by decide +kernel
theorem dX10_finish_65 : decode cX10_finish 65 = .ok (.aload_n 0, 1) := by decide +kernel
theorem dX10_finish_66 : decode cX10_finish 66 = .ok (.getfield 36, 3) := by decide +kernel
theorem dX10_finish_69 : decode cX10_finish 69 = .ok (.iload_n 3, 1) := by decide +kernel
theorem dX10_finish_70 : decode cX10_finish 70 = .ok (.iaload, 1) := by decide +kernel
theorem dX10_finish_71 : decode cX10_finish 71 = .ok (.iload_n 1, 1) := by decide +kernel
theorem dX10_finish_72 : decode cX10_finish 72 = .ok (.if_icmp .ne 24, 3) := by decide +kernel
theorem dX10_finish_75 : decode cX10_finish 75 = .ok (.aload_n 0, 1) := by decide +kernel
theorem dX10_finish_76 : decode cX10_finish 76 = .ok (.iload_n 3, 1) := by decide +kernel
theorem dX10_finish_77 : decode cX10_finish 77 = .ok (.invokevirtual 180, 3) := by decide +kernel
theorem dX10_finish_80 : decode cX10_finish 80 = .ok (.ifCond .ne 16, 3) := by decide +kernel
theorem dX10_finish_83 : decode cX10_finish 83 = .ok (.aload_n 0, 1) := by decide +kernel
theorem dX10_finish_84 : decode cX10_finish 84 = .ok (.iload_n 3, 1) := by decide +kernel
theorem dX10_finish_85 : decode cX10_finish 85 = .ok (.invokevirtual 201, 3) := by decide +kernel
theorem dX10_finish_88 : decode cX10_finish 88 = .ok (.iconst 2, 1) := by decide +kernel
theorem dX10_finish_89 : decode cX10_finish 89 = .ok (.if_icmp .ne 7, 3) := by decide +kernel
theorem dX10_finish_92 : decode cX10_finish 92 = .ok (.iconst 1, 1) := by decide +kernel
theorem dX10_finish_93 : decode cX10_finish 93 = .ok (.goto 4, 3) := by decide +kernel
theorem dX10_finish_96 : decode cX10_finish 96 = .ok (.iconst 0, 1) := by decide +kernel
theorem dX10_finish_97 : decode cX10_finish 97 = .ok (.iadd, 1) := by decide +kernel
theorem dX10_finish_98 : decode cX10_finish 98 = .ok (.istore_n 2, 1) := by decide +kernel
theorem dX10_finish_99 : decode cX10_finish 99 = .ok (.iinc 3 1, 3) := by decide +kernel
theorem dX10_finish_102 : decode cX10_finish 102 = .ok (.goto (-46), 3) := by decide +kernel
theorem dX10_finish_105 : decode cX10_finish 105 = .ok (.iload_n 2, 1) := by decide +kernel
theorem dX10_finish_106 : decode cX10_finish 106 = .ok (.ireturn, 1) := by decide +kernel
theorem dX10_votes_0 : decode cX10_votes 0 = .ok (.aload_n 0, 1) := by decide +kernel
theorem dX10_votes_1 : decode cX10_votes 1 = .ok (.iconst 0, 1) := by decide +kernel
theorem dX10_votes_2 : decode cX10_votes 2 = .ok (.putfield 85, 3) := by decide +kernel
theorem dX10_votes_5 : decode cX10_votes 5 = .ok (.aload_n 0, 1) := by decide +kernel
theorem dX10_votes_6 : decode cX10_votes 6 = .ok (.iload_n 1, 1) := by decide +kernel
theorem dX10_votes_7 : decode cX10_votes 7 = .ok (.invokevirtual 152, 3) := by decide +kernel
theorem dX10_votes_10 : decode cX10_votes 10 = .ok (.ifCond .eq 12, 3) := by decide +kernel
theorem dX10_votes_13 : decode cX10_votes 13 = .ok (.aload_n 0, 1) := by decide +kernel
theorem dX10_votes_14 : decode cX10_votes 14 = .ok (.getfield 58, 3) := by decide +kernel
theorem dX10_votes_17 : decode cX10_votes 17 = .ok (.iload_n 1, 1) := by decide +kernel
theorem dX10_votes_18 : decode cX10_votes 18 = .ok (.iaload, 1) := by decide +kernel
theorem dX10_votes_19 : decode cX10_votes 19 = .ok (.goto 8, 3) := by decide +kernel
theorem dX10_votes_22 : decode cX10_votes 22 = .ok (.aload_n 0, 1) := by decide +kernel
theorem dX10_votes_23 : decode cX10_votes 23 = .ok (.iconst 1, 1) := by decide +kernel
theorem dX10_votes_24 : decode cX10_votes 24 = .ok (.invokevirtual 104, 3) := by decide +kernel
theorem dX10_votes_27 : decode cX10_votes 27 = .ok (.ireturn, 1) := by decide +kernel
theorem dX10_allVotes_0 : decode cX10_allVotes 0 = .ok (.iconst 0, 1) := by decide +kernel
theorem dX10_allVotes_1 : decode cX10_allVotes 1 = .ok (.istore_n 2, 1) := by decide +kernel
theorem dX10_allVotes_2 : decode cX10_allVotes 2 = .ok (.iconst 0, 1) := by decide +kernel
theorem dX10_allVotes_3 : decode cX10_allVotes 3 = .ok (.istore_n 3, 1) := by decide +kernel
theorem dX10_allVotes_4 : decode cX10_allVotes 4 = .ok (.iload_n 3, 1) := by decide +kernel
theorem dX10_allVotes_5 : decode cX10_allVotes 5 = .ok (.aload_n 0, 1) := by decide +kernel
theorem dX10_allVotes_6 : decode cX10_allVotes 6 = .ok (.getfield 98, 3) := by decide +kernel
theorem dX10_allVotes_9 : decode cX10_allVotes 9 = .ok (.if_icmp .ge 32, 3) := by decide +kernel
theorem dX10_allVotes_12 : decode cX10_allVotes 12 = .ok (.iload_n 2, 1) := by decide +kernel
theorem dX10_allVotes_13 : decode cX10_allVotes 13 = .ok (.aload_n 0, 1) := by decide +kernel
theorem dX10_allVotes_14 : decode cX10_allVotes 14 = .ok (.getfield 36, 3) := by decide +kernel
theorem dX10_allVotes_17 : decode cX10_allVotes 17 = .ok (.iload_n 3, 1) := by decide +kernel
theorem dX10_allVotes_18 : decode cX10_allVotes 18 = .ok (.iaload, 1) := by decide +kernel
theorem dX10_allVotes_19 : decode cX10_allVotes 19 = .ok (.iload_n 1, 1) := by decide +kernel
theorem dX10_allVotes_20 : decode cX10_allVotes 20 = .ok (.if_icmp .ne 12, 3) := by decide +kernel
theorem dX10_allVotes_23 : decode cX10_allVotes 23 = .ok (.aload_n 0, 1) := by decide +kernel
theorem dX10_allVotes_24 : decode cX10_allVotes 24 = .ok (.getfield 58, 3) := by decide +kernel
theorem dX10_allVotes_27 : decode cX10_allVotes 27 = .ok (.iload_n 3, 1) := by decide +kernel
theorem dX10_allVotes_28 : decode cX10_allVotes 28 = .ok (.iaload, 1) := by decide +kernel
theorem dX10_allVotes_29 : decode cX10_allVotes 29 = .ok (.goto 4, 3) := by decide +kernel
theorem dX10_allVotes_32 : decode cX10_allVotes 32 = .ok (.iconst 0, 1) := by decide +kernel
theorem dX10_allVotes_33 : decode cX10_allVotes 33 = .ok (.iadd, 1) := by decide +kernel
theorem dX10_allVotes_34 : decode cX10_allVotes 34 = .ok (.istore_n 2, 1) := by decide +kernel
theorem dX10_allVotes_35 : decode cX10_allVotes 35 = .ok (.iinc 3 1, 3) := by decide +kernel
theorem dX10_allVotes_38 : decode cX10_allVotes 38 = .ok (.goto (-34), 3) := by decide +kernel
theorem dX10_allVotes_41 : decode cX10_allVotes 41 = .ok (.iload_n 2, 1) := by decide +kernel
theorem dX10_allVotes_42 : decode cX10_allVotes 42 = .ok (.ireturn, 1) := by decide +kernel
theorem dX10_share_0 : decode cX10_share 0 = .ok (.aload_n 0, 1) := by decide +kernel
theorem dX10_share_1 : decode cX10_share 1 = .ok (.iconst 0, 1) := by decide +kernel
theorem dX10_share_2 : decode cX10_share 2 = .ok (.putfield 85, 3) := by decide +kernel
theorem dX10_share_5 : decode cX10_share 5 = .ok (.aload_n 0, 1) := by decide +kernel
theorem dX10_share_6 : decode cX10_share 6 = .ok (.iload_n 1, 1) := by decide +kernel
theorem dX10_share_7 : decode cX10_share 7 = .ok (.invokevirtual 152, 3) := by decide +kernel
theorem dX10_share_10 : decode cX10_share 10 = .ok (.ifCond .ne 10, 3) := by decide +kernel
theorem dX10_share_13 : decode cX10_share 13 = .ok (.aload_n 0, 1) := by decide +kernel
theorem dX10_share_14 : decode cX10_share 14 = .ok (.iconst 1, 1) := by decide +kernel
theorem dX10_share_15 : decode cX10_share 15 = .ok (.putfield 85, 3) := by decide +kernel
theorem dX10_share_18 : decode cX10_share 18 = .ok (.dconst 0, 1) := by decide +kernel
theorem dX10_share_19 : decode cX10_share 19 = .ok (.dreturn, 1) := by decide +kernel
theorem dX10_share_20 : decode cX10_share 20 = .ok (.aload_n 0, 1) := by decide +kernel
theorem dX10_share_21 : decode cX10_share 21 = .ok (.aload_n 0, 1) := by decide +kernel
theorem dX10_share_22 : decode cX10_share 22 = .ok (.getfield 36, 3) := by decide +kernel
theorem dX10_share_25 : decode cX10_share 25 = .ok (.iload_n 1, 1) := by decide +kernel
theorem dX10_share_26 : decode cX10_share 26 = .ok (.iaload, 1) := by decide +kernel
theorem dX10_share_27 : decode cX10_share 27 = .ok (.invokevirtual 204, 3) := by decide +kernel
theorem dX10_share_30 : decode cX10_share 30 = .ok (.istore_n 2, 1) := by decide +kernel
theorem dX10_share_31 : decode cX10_share 31 = .ok (.iload_n 2, 1) := by decide +kernel
theorem dX10_share_32 : decode cX10_share 32 = .ok (.ifCond .ne 10, 3) := by decide +kernel
theorem dX10_share_35 : decode cX10_share 35 = .ok (.aload_n 0, 1) := by decide +kernel
theorem dX10_share_36 : decode cX10_share 36 = .ok (.iconst 2, 1) := by decide +kernel
theorem dX10_share_37 : decode cX10_share 37 = .ok (.putfield 85, 3) := by decide +kernel
theorem dX10_share_40 : decode cX10_share 40 = .ok (.dconst 0, 1) := by decide +kernel
theorem dX10_share_41 : decode cX10_share 41 = .ok (.dreturn, 1) := by decide +kernel
theorem dX10_share_42 : decode cX10_share 42 = .ok (.aload_n 0, 1) := by decide +kernel
theorem dX10_share_43 : decode cX10_share 43 = .ok (.getfield 58, 3) := by decide +kernel
theorem dX10_share_46 : decode cX10_share 46 = .ok (.iload_n 1, 1) := by decide +kernel
theorem dX10_share_47 : decode cX10_share 47 = .ok (.iaload, 1) := by decide +kernel
theorem dX10_share_48 : decode cX10_share 48 = .ok (.i2d, 1) := by decide +kernel
theorem dX10_share_49 : decode cX10_share 49 = .ok (.iload_n 2, 1) := by decide +kernel
theorem dX10_share_50 : decode cX10_share 50 = .ok (.i2d, 1) := by decide +kernel
theorem dX10_share_51 : decode cX10_share 51 = .ok (.ddiv, 1) := by decide +kernel
theorem dX10_share_52 : decode cX10_share 52 = .ok (.dreturn, 1) := by decide +kernel
theorem dX10_winner_0 : decode cX10_winner 0 = .ok (.aload_n 0, 1) := by decide +kernel
theorem dX10_winner_1 : decode cX10_winner 1 = .ok (.iconst 0, 1) := by decide +kernel
theorem dX10_winner_2 : decode cX10_winner 2 = .ok (.putfield 85, 3) := by decide +kernel
theorem dX10_winner_5 : decode cX10_winner 5 = .ok (.aload_n 0, 1) := by decide +kernel
theorem dX10_winner_6 : decode cX10_winner 6 = .ok (.iload_n 1, 1) := by decide +kernel
theorem dX10_winner_7 : decode cX10_winner 7 = .ok (.invokevirtual 125, 3) := by decide +kernel
theorem dX10_winner_10 : decode cX10_winner 10 = .ok (.ifCond .ne 9, 3) := by decide +kernel
theorem dX10_winner_13 : decode cX10_winner 13 = .ok (.aload_n 0, 1) := by decide +kernel
theorem dX10_winner_14 : decode cX10_winner 14 = .ok (.iconst 1, 1) := by decide +kernel
theorem dX10_winner_15 : decode cX10_winner 15 = .ok (.invokevirtual 104, 3) := by decide +kernel
theorem dX10_winner_18 : decode cX10_winner 18 = .ok (.ireturn, 1) := by decide +kernel
theorem dX10_winner_19 : decode cX10_winner 19 = .ok (.aload_n 0, 1) := by decide +kernel
theorem dX10_winner_20 : decode cX10_winner 20 = .ok (.getfield 26, 3) := by decide +kernel
theorem dX10_winner_23 : decode cX10_winner 23 = .ok (.iload_n 1, 1) := by decide +kernel
theorem dX10_winner_24 : decode cX10_winner 24 = .ok (.baload, 1) := by decide +kernel
theorem dX10_winner_25 : decode cX10_winner 25 = .ok (.ifCond .ne 9, 3) := by decide +kernel
theorem dX10_winner_28 : decode cX10_winner 28 = .ok (.aload_n 0, 1) := by decide +kernel
theorem dX10_winner_29 : decode cX10_winner 29 = .ok (.iconst 2, 1) := by decide +kernel
theorem dX10_winner_30 : decode cX10_winner 30 = .ok (.invokevirtual 104, 3) := by decide +kernel
theorem dX10_winner_33 : decode cX10_winner 33 = .ok (.ireturn, 1) := by decide +kernel
theorem dX10_winner_34 : decode cX10_winner 34 = .ok (.iconst (-1), 1) := by decide +kernel
theorem dX10_winner_35 : decode cX10_winner 35 = .ok (.istore_n 2, 1) := by decide +kernel
theorem dX10_winner_36 : decode cX10_winner 36 = .ok (.iconst 0, 1) := by decide +kernel
theorem dX10_winner_37 : decode cX10_winner 37 = .ok (.istore_n 3, 1) := by decide +kernel
theorem dX10_winner_38 : decode cX10_winner 38 = .ok (.iload_n 3, 1) := by decide +kernel
theorem dX10_winner_39 : decode cX10_winner 39 = .ok (.aload_n 0, 1) := by decide +kernel
theorem dX10_winner_40 : decode cX10_winner 40 = .ok (.getfield 98, 3) := by decide +kernel
theorem dX10_winner_43 : decode cX10_winner 43 = .ok (.if_icmp .ge 52, 3) := by decide +kernel
theorem dX10_winner_46 : decode cX10_winner 46 = .ok (.aload_n 0, 1) := by decide +kernel
theorem dX10_winner_47 : decode cX10_winner 47 = .ok (.getfield 36, 3) := by decide +kernel
theorem dX10_winner_50 : decode cX10_winner 50 = .ok (.iload_n 3, 1) := by decide +kernel
theorem dX10_winner_51 : decode cX10_winner 51 = .ok (.iaload, 1) := by decide +kernel
theorem dX10_winner_52 : decode cX10_winner 52 = .ok (.iload_n 1, 1) := by decide +kernel
theorem dX10_winner_53 : decode cX10_winner 53 = .ok (.if_icmp .ne 36, 3) := by decide +kernel
theorem dX10_winner_56 : decode cX10_winner 56 = .ok (.aload_n 0, 1) := by decide +kernel
theorem dX10_winner_57 : decode cX10_winner 57 = .ok (.iload_n 3, 1) := by decide +kernel
theorem dX10_winner_58 : decode cX10_winner 58 = .ok (.invokevirtual 180, 3) := by decide +kernel
theorem dX10_winner_61 : decode cX10_winner 61 = .ok (.ifCond .ne 28, 3) := by decide +kernel
theorem dX10_winner_64 : decode cX10_winner 64 = .ok (.iload_n 2, 1) := by decide +kernel
theorem dX10_winner_65 : decode cX10_winner 65 = .ok (.ifCond .lt 18, 3) := by decide +kernel
theorem dX10_winner_68 : decode cX10_winner 68 = .ok (.aload_n 0, 1) := by decide +kernel
theorem dX10_winner_69 : decode cX10_winner 69 = .ok (.getfield 58, 3) := by decide +kernel
theorem dX10_winner_72 : decode cX10_winner 72 = .ok (.iload_n 3, 1) := by decide +kernel
theorem dX10_winner_73 : decode cX10_winner 73 = .ok (.iaload, 1) := by decide +kernel
theorem dX10_winner_74 : decode cX10_winner 74 = .ok (.aload_n 0, 1) := by decide +kernel
theorem dX10_winner_75 : decode cX10_winner 75 = .ok (.getfield 58, 3) := by decide +kernel
theorem dX10_winner_78 : decode cX10_winner 78 = .ok (.iload_n 2, 1) := by decide +kernel
theorem dX10_winner_79 : decode cX10_winner 79 = .ok (.iaload, 1) := by decide +kernel
theorem dX10_winner_80 : decode cX10_winner 80 = .ok (.if_icmp .le 7, 3) := by decide +kernel
theorem dX10_winner_83 : decode cX10_winner 83 = .ok (.iload_n 3, 1) := by decide +kernel
theorem dX10_winner_84 : decode cX10_winner 84 = .ok (.goto 4, 3) := by decide +kernel
theorem dX10_winner_87 : decode cX10_winner 87 = .ok (.iload_n 2, 1) := by decide +kernel
theorem dX10_winner_88 : decode cX10_winner 88 = .ok (.istore_n 2, 1) := by decide +kernel
theorem dX10_winner_89 : decode cX10_winner 89 = .ok (.iinc 3 1, 3) := by decide +kernel
theorem dX10_winner_92 : decode cX10_winner 92 = .ok (.goto (-54), 3) := by decide +kernel
theorem dX10_winner_95 : decode cX10_winner 95 = .ok (.iload_n 2, 1) := by decide +kernel
theorem dX10_winner_96 : decode cX10_winner 96 = .ok (.ifCond .ge 11, 3) := by decide +kernel
theorem dX10_winner_99 : decode cX10_winner 99 = .ok (.aload_n 0, 1) := by decide +kernel
theorem dX10_winner_100 : decode cX10_winner 100 = .ok (.iconst 3, 1) := by decide +kernel
theorem dX10_winner_101 : decode cX10_winner 101 = .ok (.invokevirtual 104, 3) := by decide +kernel
theorem dX10_winner_104 : decode cX10_winner 104 = .ok (.goto 4, 3) := by decide +kernel
theorem dX10_winner_107 : decode cX10_winner 107 = .ok (.iload_n 2, 1) := by decide +kernel
theorem dX10_winner_108 : decode cX10_winner 108 = .ok (.ireturn, 1) := by decide +kernel
theorem dX10_fate_0 : decode cX10_fate 0 = .ok (.aload_n 0, 1) := by decide +kernel
theorem dX10_fate_1 : decode cX10_fate 1 = .ok (.getfield 46, 3) := by decide +kernel
theorem dX10_fate_4 : decode cX10_fate 4 = .ok (.iload_n 1, 1) := by decide +kernel
theorem dX10_fate_5 : decode cX10_fate 5 = .ok (.iaload, 1) := by decide +kernel
theorem dX10_fate_6 : decode cX10_fate 6 = .ok (.ifCond .le 19, 3) := by decide +kernel
theorem dX10_fate_9 : decode cX10_fate 9 = .ok (.aload_n 0, 1) := by decide +kernel
theorem dX10_fate_10 : decode cX10_fate 10 = .ok (.getfield 46, 3) := by decide +kernel
theorem dX10_fate_13 : decode cX10_fate 13 = .ok (.iload_n 1, 1) := by decide +kernel
theorem dX10_fate_14 : decode cX10_fate 14 = .ok (.iaload, 1) := by decide +kernel
theorem dX10_fate_15 : decode cX10_fate 15 = .ok (.iconst 1, 1) := by decide +kernel
theorem dX10_fate_16 : decode cX10_fate 16 = .ok (.if_icmp .ne 7, 3) := by decide +kernel
theorem dX10_fate_19 : decode cX10_fate 19 = .ok (.iconst 1, 1) := by decide +kernel
theorem dX10_fate_20 : decode cX10_fate 20 = .ok (.goto 4, 3) := by decide +kernel
theorem dX10_fate_23 : decode cX10_fate 23 = .ok (.iconst 2, 1) := by decide +kernel
theorem dX10_fate_24 : decode cX10_fate 24 = .ok (.ireturn, 1) := by decide +kernel
theorem dX10_fate_25 : decode cX10_fate 25 = .ok (.aload_n 0, 1) := by decide +kernel
theorem dX10_fate_26 : decode cX10_fate 26 = .ok (.invokevirtual 108, 3) := by decide +kernel
theorem dX10_fate_29 : decode cX10_fate 29 = .ok (.ifCond .eq 5, 3) := by decide +kernel
theorem dX10_fate_32 : decode cX10_fate 32 = .ok (.iconst 0, 1) := by decide +kernel
theorem dX10_fate_33 : decode cX10_fate 33 = .ok (.ireturn, 1) := by decide +kernel
theorem dX10_fate_34 : decode cX10_fate 34 = .ok (.aload_n 0, 1) := by decide +kernel
theorem dX10_fate_35 : decode cX10_fate 35 = .ok (.getfield 61, 3) := by decide +kernel
theorem dX10_fate_38 : decode cX10_fate 38 = .ok (.iload_n 1, 1) := by decide +kernel
theorem dX10_fate_39 : decode cX10_fate 39 = .ok (.iaload, 1) := by decide +kernel
theorem dX10_fate_40 : decode cX10_fate 40 = .ok (.ifCond .le 5, 3) := by decide +kernel
theorem dX10_fate_43 : decode cX10_fate 43 = .ok (.iconst 1, 1) := by decide +kernel
theorem dX10_fate_44 : decode cX10_fate 44 = .ok (.ireturn, 1) := by decide +kernel
theorem dX10_fate_45 : decode cX10_fate 45 = .ok (.aload_n 0, 1) := by decide +kernel
theorem dX10_fate_46 : decode cX10_fate 46 = .ok (.getfield 52, 3) := by decide +kernel
theorem dX10_fate_49 : decode cX10_fate 49 = .ok (.iload_n 1, 1) := by decide +kernel
theorem dX10_fate_50 : decode cX10_fate 50 = .ok (.baload, 1) := by decide +kernel
theorem dX10_fate_51 : decode cX10_fate 51 = .ok (.ifCond .eq 17, 3) := by decide +kernel
theorem dX10_fate_54 : decode cX10_fate 54 = .ok (.aload_n 0, 1) := by decide +kernel
theorem dX10_fate_55 : decode cX10_fate 55 = .ok (.iload_n 1, 1) := by decide +kernel
theorem dX10_fate_56 : decode cX10_fate 56 = .ok (.invokevirtual 158, 3) := by decide +kernel
theorem dX10_fate_59 : decode cX10_fate 59 = .ok (.ifCond .eq 7, 3) := by decide +kernel
theorem dX10_fate_62 : decode cX10_fate 62 = .ok (.iconst 0, 1) := by decide +kernel
theorem dX10_fate_63 : decode cX10_fate 63 = .ok (.goto 4, 3) := by decide +kernel
theorem dX10_fate_66 : decode cX10_fate 66 = .ok (.iconst 1, 1) := by decide +kernel
theorem dX10_fate_67 : decode cX10_fate 67 = .ok (.ireturn, 1) := by decide +kernel
theorem dX10_fate_68 : decode cX10_fate 68 = .ok (.aload_n 0, 1) := by decide +kernel
theorem dX10_fate_69 : decode cX10_fate 69 = .ok (.getfield 26, 3) := by decide +kernel
theorem dX10_fate_72 : decode cX10_fate 72 = .ok (.aload_n 0, 1) := by decide +kernel
theorem dX10_fate_73 : decode cX10_fate 73 = .ok (.getfield 36, 3) := by decide +kernel
theorem dX10_fate_76 : decode cX10_fate 76 = .ok (.iload_n 1, 1) := by decide +kernel
theorem dX10_fate_77 : decode cX10_fate 77 = .ok (.iaload, 1) := by decide +kernel
theorem dX10_fate_78 : decode cX10_fate 78 = .ok (.baload, 1) := by decide +kernel
theorem dX10_fate_79 : decode cX10_fate 79 = .ok (.ifCond .ne 5, 3) := by decide +kernel
theorem dX10_fate_82 : decode cX10_fate 82 = .ok (.iconst 0, 1) := by decide +kernel
theorem dX10_fate_83 : decode cX10_fate 83 = .ok (.ireturn, 1) := by decide +kernel
theorem dX10_fate_84 : decode cX10_fate 84 = .ok (.bipush 20, 2) := by decide +kernel
theorem dX10_fate_86 : decode cX10_fate 86 = .ok (.aload_n 0, 1) := by decide +kernel
theorem dX10_fate_87 : decode cX10_fate 87 = .ok (.getfield 58, 3) := by decide +kernel
theorem dX10_fate_90 : decode cX10_fate 90 = .ok (.iload_n 1, 1) := by decide +kernel
theorem dX10_fate_91 : decode cX10_fate 91 = .ok (.iaload, 1) := by decide +kernel
theorem dX10_fate_92 : decode cX10_fate 92 = .ok (.imul, 1) := by decide +kernel
theorem dX10_fate_93 : decode cX10_fate 93 = .ok (.aload_n 0, 1) := by decide +kernel
theorem dX10_fate_94 : decode cX10_fate 94 = .ok (.aload_n 0, 1) := by decide +kernel
theorem dX10_fate_95 : decode cX10_fate 95 = .ok (.getfield 36, 3) := by decide +kernel
theorem dX10_fate_98 : decode cX10_fate 98 = .ok (.iload_n 1, 1) := by decide +kernel
theorem dX10_fate_99 : decode cX10_fate 99 = .ok (.iaload, 1) := by decide +kernel
theorem dX10_fate_100 : decode cX10_fate 100 = .ok (.invokevirtual 204, 3) := by decide +kernel
theorem dX10_fate_103 : decode cX10_fate 103 = .ok (.if_icmp .ge 7, 3) := by decide +kernel
theorem dX10_fate_106 : decode cX10_fate 106 = .ok (.iconst 2, 1) := by decide +kernel
theorem dX10_fate_107 : decode cX10_fate 107 = .ok (.goto 4, 3) := by decide +kernel
theorem dX10_fate_110 : decode cX10_fate 110 = .ok (.iconst 1, 1) := by decide +kernel
theorem dX10_fate_111 : decode cX10_fate 111 = .ok (.ireturn, 1) := by decide +kernel
theorem dX10_deposit_0 : decode cX10_deposit 0 = .ok (.aload_n 0, 1) := by decide +kernel
theorem dX10_deposit_1 : decode cX10_deposit 1 = .ok (.iconst 0, 1) := by decide +kernel
theorem dX10_deposit_2 : decode cX10_deposit 2 = .ok (.putfield 85, 3) := by decide +kernel
theorem dX10_deposit_5 : decode cX10_deposit 5 = .ok (.aload_n 0, 1) := by decide +kernel
theorem dX10_deposit_6 : decode cX10_deposit 6 = .ok (.iload_n 1, 1) := by decide +kernel
theorem dX10_deposit_7 : decode cX10_deposit 7 = .ok (.invokevirtual 152, 3) := by decide +kernel
theorem dX10_deposit_10 : decode cX10_deposit 10 = .ok (.ifCond .eq 11, 3) := by decide +kernel
theorem dX10_deposit_13 : decode cX10_deposit 13 = .ok (.aload_n 0, 1) := by decide +kernel
theorem dX10_deposit_14 : decode cX10_deposit 14 = .ok (.iload_n 1, 1) := by decide +kernel
theorem dX10_deposit_15 : decode cX10_deposit 15 = .ok (.invokevirtual 201, 3) := by decide +kernel
theorem dX10_deposit_18 : decode cX10_deposit 18 = .ok (.goto 8, 3) := by decide +kernel
theorem dX10_deposit_21 : decode cX10_deposit 21 = .ok (.aload_n 0, 1) := by decide +kernel
theorem dX10_deposit_22 : decode cX10_deposit 22 = .ok (.iconst 1, 1) := by decide +kernel
theorem dX10_deposit_23 : decode cX10_deposit 23 = .ok (.invokevirtual 104, 3) := by decide +kernel
theorem dX10_deposit_26 : decode cX10_deposit 26 = .ok (.ireturn, 1) := by decide +kernel
theorem dX10_paid_0 : decode cX10_paid 0 = .ok (.aload_n 0, 1) := by decide +kernel
theorem dX10_paid_1 : decode cX10_paid 1 = .ok (.iconst 0, 1) := by decide +kernel
theorem dX10_paid_2 : decode cX10_paid 2 = .ok (.putfield 85, 3) := by decide +kernel
theorem dX10_paid_5 : decode cX10_paid 5 = .ok (.aload_n 0, 1) := by decide +kernel
theorem dX10_paid_6 : decode cX10_paid 6 = .ok (.iload_n 1, 1) := by decide +kernel
theorem dX10_paid_7 : decode cX10_paid 7 = .ok (.invokevirtual 152, 3) := by decide +kernel
theorem dX10_paid_10 : decode cX10_paid 10 = .ok (.ifCond .eq 12, 3) := by decide +kernel
theorem dX10_paid_13 : decode cX10_paid 13 = .ok (.aload_n 0, 1) := by decide +kernel
theorem dX10_paid_14 : decode cX10_paid 14 = .ok (.getfield 49, 3) := by decide +kernel
theorem dX10_paid_17 : decode cX10_paid 17 = .ok (.iload_n 1, 1) := by decide +kernel
theorem dX10_paid_18 : decode cX10_paid 18 = .ok (.iaload, 1) := by decide +kernel
theorem dX10_paid_19 : decode cX10_paid 19 = .ok (.goto 8, 3) := by decide +kernel
theorem dX10_paid_22 : decode cX10_paid 22 = .ok (.aload_n 0, 1) := by decide +kernel
theorem dX10_paid_23 : decode cX10_paid 23 = .ok (.iconst 1, 1) := by decide +kernel
theorem dX10_paid_24 : decode cX10_paid 24 = .ok (.invokevirtual 104, 3) := by decide +kernel
theorem dX10_paid_27 : decode cX10_paid 27 = .ok (.ireturn, 1) := by decide +kernel
theorem dX10_sum_0 : decode cX10_sum 0 = .ok (.iconst 0, 1) := by decide +kernel
theorem dX10_sum_1 : decode cX10_sum 1 = .ok (.istore_n 2, 1) := by decide +kernel
theorem dX10_sum_2 : decode cX10_sum 2 = .ok (.iconst 0, 1) := by decide +kernel
theorem dX10_sum_3 : decode cX10_sum 3 = .ok (.istore_n 3, 1) := by decide +kernel
theorem dX10_sum_4 : decode cX10_sum 4 = .ok (.iload_n 3, 1) := by decide +kernel
theorem dX10_sum_5 : decode cX10_sum 5 = .ok (.aload_n 0, 1) := by decide +kernel
theorem dX10_sum_6 : decode cX10_sum 6 = .ok (.getfield 98, 3) := by decide +kernel
theorem dX10_sum_9 : decode cX10_sum 9 = .ok (.if_icmp .ge 31, 3) := by decide +kernel
theorem dX10_sum_12 : decode cX10_sum 12 = .ok (.iload_n 2, 1) := by decide +kernel
theorem dX10_sum_13 : decode cX10_sum 13 = .ok (.aload_n 0, 1) := by decide +kernel
theorem dX10_sum_14 : decode cX10_sum 14 = .ok (.iload_n 3, 1) := by decide +kernel
theorem dX10_sum_15 : decode cX10_sum 15 = .ok (.invokevirtual 201, 3) := by decide +kernel
theorem dX10_sum_18 : decode cX10_sum 18 = .ok (.iload_n 1, 1) := by decide +kernel
theorem dX10_sum_19 : decode cX10_sum 19 = .ok (.if_icmp .ne 12, 3) := by decide +kernel
theorem dX10_sum_22 : decode cX10_sum 22 = .ok (.aload_n 0, 1) := by decide +kernel
theorem dX10_sum_23 : decode cX10_sum 23 = .ok (.getfield 49, 3) := by decide +kernel
theorem dX10_sum_26 : decode cX10_sum 26 = .ok (.iload_n 3, 1) := by decide +kernel
theorem dX10_sum_27 : decode cX10_sum 27 = .ok (.iaload, 1) := by decide +kernel
theorem dX10_sum_28 : decode cX10_sum 28 = .ok (.goto 4, 3) := by decide +kernel
theorem dX10_sum_31 : decode cX10_sum 31 = .ok (.iconst 0, 1) := by decide +kernel
theorem dX10_sum_32 : decode cX10_sum 32 = .ok (.iadd, 1) := by decide +kernel
theorem dX10_sum_33 : decode cX10_sum 33 = .ok (.istore_n 2, 1) := by decide +kernel
theorem dX10_sum_34 : decode cX10_sum 34 = .ok (.iinc 3 1, 3) := by decide +kernel
theorem dX10_sum_37 : decode cX10_sum 37 = .ok (.goto (-33), 3) := by decide +kernel
theorem dX10_sum_40 : decode cX10_sum 40 = .ok (.iload_n 2, 1) := by decide +kernel
theorem dX10_sum_41 : decode cX10_sum 41 = .ok (.ireturn, 1) := by decide +kernel
theorem dX10_sumHeld_0 : decode cX10_sumHeld 0 = .ok (.aload_n 0, 1) := by decide +kernel
theorem dX10_sumHeld_1 : decode cX10_sumHeld 1 = .ok (.iconst 0, 1) := by decide +kernel
theorem dX10_sumHeld_2 : decode cX10_sumHeld 2 = .ok (.putfield 85, 3) := by decide +kernel
theorem dX10_sumHeld_5 : decode cX10_sumHeld 5 = .ok (.aload_n 0, 1) := by decide +kernel
theorem dX10_sumHeld_6 : decode cX10_sumHeld 6 = .ok (.iconst 0, 1) := by decide +kernel
theorem dX10_sumHeld_7 : decode cX10_sumHeld 7 = .ok (.invokevirtual 207, 3) := by decide +kernel
theorem dX10_sumHeld_10 : decode cX10_sumHeld 10 = .ok (.ireturn, 1) := by decide +kernel
theorem dX10_sumLost_0 : decode cX10_sumLost 0 = .ok (.aload_n 0, 1) := by decide +kernel
theorem dX10_sumLost_1 : decode cX10_sumLost 1 = .ok (.iconst 0, 1) := by decide +kernel
theorem dX10_sumLost_2 : decode cX10_sumLost 2 = .ok (.putfield 85, 3) := by decide +kernel
theorem dX10_sumLost_5 : decode cX10_sumLost 5 = .ok (.aload_n 0, 1) := by decide +kernel
theorem dX10_sumLost_6 : decode cX10_sumLost 6 = .ok (.iconst 2, 1) := by decide +kernel
theorem dX10_sumLost_7 : decode cX10_sumLost 7 = .ok (.invokevirtual 207, 3) := by decide +kernel
theorem dX10_sumLost_10 : decode cX10_sumLost 10 = .ok (.ireturn, 1) := by decide +kernel
theorem dX10_lostShare_0 : decode cX10_lostShare 0 = .ok (.aload_n 0, 1) := by decide +kernel
theorem dX10_lostShare_1 : decode cX10_lostShare 1 = .ok (.iconst 0, 1) := by decide +kernel
theorem dX10_lostShare_2 : decode cX10_lostShare 2 = .ok (.putfield 85, 3) := by decide +kernel
theorem dX10_lostShare_5 : decode cX10_lostShare 5 = .ok (.aload_n 0, 1) := by decide +kernel
theorem dX10_lostShare_6 : decode cX10_lostShare 6 = .ok (.iconst 0, 1) := by decide +kernel
theorem dX10_lostShare_7 : decode cX10_lostShare 7 = .ok (.invokevirtual 207, 3) := by decide +kernel
theorem dX10_lostShare_10 : decode cX10_lostShare 10 = .ok (.aload_n 0, 1) := by decide +kernel
theorem dX10_lostShare_11 : decode cX10_lostShare 11 = .ok (.iconst 1, 1) := by decide +kernel
theorem dX10_lostShare_12 : decode cX10_lostShare 12 = .ok (.invokevirtual 207, 3) := by decide +kernel
theorem dX10_lostShare_15 : decode cX10_lostShare 15 = .ok (.iadd, 1) := by decide +kernel
theorem dX10_lostShare_16 : decode cX10_lostShare 16 = .ok (.aload_n 0, 1) := by decide +kernel
theorem dX10_lostShare_17 : decode cX10_lostShare 17 = .ok (.iconst 2, 1) := by decide +kernel
theorem dX10_lostShare_18 : decode cX10_lostShare 18 = .ok (.invokevirtual 207, 3) := by decide +kernel
theorem dX10_lostShare_21 : decode cX10_lostShare 21 = .ok (.iadd, 1) := by decide +kernel
theorem dX10_lostShare_22 : decode cX10_lostShare 22 = .ok (.istore_n 1, 1) := by decide +kernel
theorem dX10_lostShare_23 : decode cX10_lostShare 23 = .ok (.iload_n 1, 1) := by decide +kernel
theorem dX10_lostShare_24 : decode cX10_lostShare 24 = .ok (.ifCond .ne 10, 3) := by decide +kernel
theorem dX10_lostShare_27 : decode cX10_lostShare 27 = .ok (.aload_n 0, 1) := by decide +kernel
theorem dX10_lostShare_28 : decode cX10_lostShare 28 = .ok (.iconst 1, 1) := by decide +kernel
theorem dX10_lostShare_29 : decode cX10_lostShare 29 = .ok (.putfield 85, 3) := by decide +kernel
theorem dX10_lostShare_32 : decode cX10_lostShare 32 = .ok (.fconst 0, 1) := by decide +kernel
theorem dX10_lostShare_33 : decode cX10_lostShare 33 = .ok (.freturn, 1) := by decide +kernel
theorem dX10_lostShare_34 : decode cX10_lostShare 34 = .ok (.aload_n 0, 1) := by decide +kernel
theorem dX10_lostShare_35 : decode cX10_lostShare 35 = .ok (.iconst 2, 1) := by decide +kernel
theorem dX10_lostShare_36 : decode cX10_lostShare 36 = .ok (.invokevirtual 207, 3) := by decide +kernel
theorem dX10_lostShare_39 : decode cX10_lostShare 39 = .ok (.i2f, 1) := by decide +kernel
theorem dX10_lostShare_40 : decode cX10_lostShare 40 = .ok (.iload_n 1, 1) := by decide +kernel
theorem dX10_lostShare_41 : decode cX10_lostShare 41 = .ok (.i2f, 1) := by decide +kernel
theorem dX10_lostShare_42 : decode cX10_lostShare 42 = .ok (.fdiv, 1) := by decide +kernel
theorem dX10_lostShare_43 : decode cX10_lostShare 43 = .ok (.freturn, 1) := by decide +kernel
theorem dL_setCalendar_0 : decode cL_setCalendar 0 = .ok (.aload 4, 2) := by decide +kernel
theorem dL_setCalendar_2 : decode cL_setCalendar 2 = .ok (.iconst 0, 1) := by decide +kernel
theorem dL_setCalendar_3 : decode cL_setCalendar 3 = .ok (.aload_n 0, 1) := by decide +kernel
theorem dL_setCalendar_4 : decode cL_setCalendar 4 = .ok (.iload_n 1, 1) := by decide +kernel
theorem dL_setCalendar_5 : decode cL_setCalendar 5 = .ok (.iload_n 2, 1) := by decide +kernel
theorem dL_setCalendar_6 : decode cL_setCalendar 6 = .ok (.iload_n 3, 1) := by decide +kernel
theorem dL_setCalendar_7 : decode cL_setCalendar 7 = .ok (.invokevirtual 7, 3) := by decide +kernel
theorem dL_setCalendar_10 : decode cL_setCalendar 10 = .ok (.i2l, 1) := by decide +kernel
theorem dL_setCalendar_11 : decode cL_setCalendar 11 = .ok (.lastore, 1) := by decide +kernel
theorem dL_setCalendar_12 : decode cL_setCalendar 12 = .ok (.goto 11, 3) := by decide +kernel
theorem dL_setCalendar_15 : decode cL_setCalendar 15 = .ok (.astore 5, 2) := by decide +kernel
theorem dL_setCalendar_17 : decode cL_setCalendar 17 = .ok (.iconst 1, 1) := by decide +kernel
theorem dL_setCalendar_18 : decode cL_setCalendar 18 = .ok (.ireturn, 1) := by decide +kernel
theorem dL_setCalendar_19 : decode cL_setCalendar 19 = .ok (.astore 5, 2) := by decide +kernel
theorem dL_setCalendar_21 : decode cL_setCalendar 21 = .ok (.iconst 2, 1) := by decide +kernel
theorem dL_setCalendar_22 : decode cL_setCalendar 22 = .ok (.ireturn, 1) := by decide +kernel
theorem dL_setCalendar_23 : decode cL_setCalendar 23 = .ok (.iconst 0, 1) := by decide +kernel
theorem dL_setCalendar_24 : decode cL_setCalendar 24 = .ok (.ireturn, 1) := by decide +kernel
theorem dL_pass_0 : decode cL_pass 0 = .ok (.aload_n 2, 1) := by decide +kernel
theorem dL_pass_1 : decode cL_pass 1 = .ok (.iconst 0, 1) := by decide +kernel
theorem dL_pass_2 : decode cL_pass 2 = .ok (.aload_n 0, 1) := by decide +kernel
theorem dL_pass_3 : decode cL_pass 3 = .ok (.iload_n 1, 1) := by decide +kernel
theorem dL_pass_4 : decode cL_pass 4 = .ok (.invokevirtual 17, 3) := by decide +kernel
theorem dL_pass_7 : decode cL_pass 7 = .ok (.i2l, 1) := by decide +kernel
theorem dL_pass_8 : decode cL_pass 8 = .ok (.lastore, 1) := by decide +kernel
theorem dL_pass_9 : decode cL_pass 9 = .ok (.goto 9, 3) := by decide +kernel
theorem dL_pass_12 : decode cL_pass 12 = .ok (.astore_n 3, 1) := by decide +kernel
theorem dL_pass_13 : decode cL_pass 13 = .ok (.iconst 1, 1) := by decide +kernel
theorem dL_pass_14 : decode cL_pass 14 = .ok (.ireturn, 1) := by decide +kernel
theorem dL_pass_15 : decode cL_pass 15 = .ok (.astore_n 3, 1) := by decide +kernel
theorem dL_pass_16 : decode cL_pass 16 = .ok (.iconst 2, 1) := by decide +kernel
theorem dL_pass_17 : decode cL_pass 17 = .ok (.ireturn, 1) := by decide +kernel
theorem dL_pass_18 : decode cL_pass 18 = .ok (.iconst 0, 1) := by decide +kernel
theorem dL_pass_19 : decode cL_pass 19 = .ok (.ireturn, 1) := by decide +kernel
theorem dL_addArea_0 : decode cL_addArea 0 = .ok (.aload_n 3, 1) := by decide +kernel
theorem dL_addArea_1 : decode cL_addArea 1 = .ok (.iconst 0, 1) := by decide +kernel
theorem dL_addArea_2 : decode cL_addArea 2 = .ok (.aload_n 0, 1) := by decide +kernel
theorem dL_addArea_3 : decode cL_addArea 3 = .ok (.iload_n 1, 1) := by decide +kernel
theorem dL_addArea_4 : decode cL_addArea 4 = .ok (.iload_n 2, 1) := by decide +kernel
theorem dL_addArea_5 : decode cL_addArea 5 = .ok (.invokevirtual 21, 3) := by decide +kernel
theorem dL_addArea_8 : decode cL_addArea 8 = .ok (.i2l, 1) := by decide +kernel
theorem dL_addArea_9 : decode cL_addArea 9 = .ok (.lastore, 1) := by decide +kernel
theorem dL_addArea_10 : decode cL_addArea 10 = .ok (.goto 11, 3) := by decide +kernel
theorem dL_addArea_13 : decode cL_addArea 13 = .ok (.astore 4, 2) := by decide +kernel
theorem dL_addArea_15 : decode cL_addArea 15 = .ok (.iconst 1, 1) := by decide +kernel
theorem dL_addArea_16 : decode cL_addArea 16 = .ok (.ireturn, 1) := by decide +kernel
theorem dL_addArea_17 : decode cL_addArea 17 = .ok (.astore 4, 2) := by decide +kernel
theorem dL_addArea_19 : decode cL_addArea 19 = .ok (.iconst 2, 1) := by decide +kernel
theorem dL_addArea_20 : decode cL_addArea 20 = .ok (.ireturn, 1) := by decide +kernel
theorem dL_addArea_21 : decode cL_addArea 21 = .ok (.iconst 0, 1) := by decide +kernel
theorem dL_addArea_22 : decode cL_addArea 22 = .ok (.ireturn, 1) := by decide +kernel
theorem dL_addVoter_0 : decode cL_addVoter 0 = .ok (.aload_n 2, 1) := by decide +kernel
theorem dL_addVoter_1 : decode cL_addVoter 1 = .ok (.iconst 0, 1) := by decide +kernel
theorem dL_addVoter_2 : decode cL_addVoter 2 = .ok (.aload_n 0, 1) := by decide +kernel
theorem dL_addVoter_3 : decode cL_addVoter 3 = .ok (.iload_n 1, 1) := by decide +kernel
theorem dL_addVoter_4 : decode cL_addVoter 4 = .ok (.invokevirtual 25, 3) := by decide +kernel
theorem dL_addVoter_7 : decode cL_addVoter 7 = .ok (.i2l, 1) := by decide +kernel
theorem dL_addVoter_8 : decode cL_addVoter 8 = .ok (.lastore, 1) := by decide +kernel
theorem dL_addVoter_9 : decode cL_addVoter 9 = .ok (.goto 9, 3) := by decide +kernel
theorem dL_addVoter_12 : decode cL_addVoter 12 = .ok (.astore_n 3, 1) := by decide +kernel
theorem dL_addVoter_13 : decode cL_addVoter 13 = .ok (.iconst 1, 1) := by decide +kernel
theorem dL_addVoter_14 : decode cL_addVoter 14 = .ok (.ireturn, 1) := by decide +kernel
theorem dL_addVoter_15 : decode cL_addVoter 15 = .ok (.astore_n 3, 1) := by decide +kernel
theorem dL_addVoter_16 : decode cL_addVoter 16 = .ok (.iconst 2, 1) := by decide +kernel
theorem dL_addVoter_17 : decode cL_addVoter 17 = .ok (.ireturn, 1) := by decide +kernel
theorem dL_addVoter_18 : decode cL_addVoter 18 = .ok (.iconst 0, 1) := by decide +kernel
theorem dL_addVoter_19 : decode cL_addVoter 19 = .ok (.ireturn, 1) := by decide +kernel
theorem dL_move_0 : decode cL_move 0 = .ok (.aload_n 3, 1) := by decide +kernel
theorem dL_move_1 : decode cL_move 1 = .ok (.iconst 0, 1) := by decide +kernel
theorem dL_move_2 : decode cL_move 2 = .ok (.aload_n 0, 1) := by decide +kernel
theorem dL_move_3 : decode cL_move 3 = .ok (.iload_n 1, 1) := by decide +kernel
theorem dL_move_4 : decode cL_move 4 = .ok (.iload_n 2, 1) := by decide +kernel
theorem dL_move_5 : decode cL_move 5 = .ok (.invokevirtual 30, 3) := by decide +kernel
theorem dL_move_8 : decode cL_move 8 = .ok (.i2l, 1) := by decide +kernel
theorem dL_move_9 : decode cL_move 9 = .ok (.lastore, 1) := by decide +kernel
theorem dL_move_10 : decode cL_move 10 = .ok (.goto 11, 3) := by decide +kernel
theorem dL_move_13 : decode cL_move 13 = .ok (.astore 4, 2) := by decide +kernel
theorem dL_move_15 : decode cL_move 15 = .ok (.iconst 1, 1) := by decide +kernel
theorem dL_move_16 : decode cL_move 16 = .ok (.ireturn, 1) := by decide +kernel
theorem dL_move_17 : decode cL_move 17 = .ok (.astore 4, 2) := by decide +kernel
theorem dL_move_19 : decode cL_move 19 = .ok (.iconst 2, 1) := by decide +kernel
theorem dL_move_20 : decode cL_move 20 = .ok (.ireturn, 1) := by decide +kernel
theorem dL_move_21 : decode cL_move 21 = .ok (.iconst 0, 1) := by decide +kernel
theorem dL_move_22 : decode cL_move 22 = .ok (.ireturn, 1) := by decide +kernel
theorem dL_strike_0 : decode cL_strike 0 = .ok (.aload_n 2, 1) := by decide +kernel
theorem dL_strike_1 : decode cL_strike 1 = .ok (.iconst 0, 1) := by decide +kernel
theorem dL_strike_2 : decode cL_strike 2 = .ok (.aload_n 0, 1) := by decide +kernel
theorem dL_strike_3 : decode cL_strike 3 = .ok (.iload_n 1, 1) := by decide +kernel
theorem dL_strike_4 : decode cL_strike 4 = .ok (.invokevirtual 35, 3) := by decide +kernel
theorem dL_strike_7 : decode cL_strike 7 = .ok (.i2l, 1) := by decide +kernel
theorem dL_strike_8 : decode cL_strike 8 = .ok (.lastore, 1) := by decide +kernel
theorem dL_strike_9 : decode cL_strike 9 = .ok (.goto 9, 3) := by decide +kernel
theorem dL_strike_12 : decode cL_strike 12 = .ok (.astore_n 3, 1) := by decide +kernel
theorem dL_strike_13 : decode cL_strike 13 = .ok (.iconst 1, 1) := by decide +kernel
theorem dL_strike_14 : decode cL_strike 14 = .ok (.ireturn, 1) := by decide +kernel
theorem dL_strike_15 : decode cL_strike 15 = .ok (.astore_n 3, 1) := by decide +kernel
theorem dL_strike_16 : decode cL_strike 16 = .ok (.iconst 2, 1) := by decide +kernel
theorem dL_strike_17 : decode cL_strike 17 = .ok (.ireturn, 1) := by decide +kernel
theorem dL_strike_18 : decode cL_strike 18 = .ok (.iconst 0, 1) := by decide +kernel
theorem dL_strike_19 : decode cL_strike 19 = .ok (.ireturn, 1) := by decide +kernel
theorem dL_restore_0 : decode cL_restore 0 = .ok (.aload_n 2, 1) := by decide +kernel
theorem dL_restore_1 : decode cL_restore 1 = .ok (.iconst 0, 1) := by decide +kernel
theorem dL_restore_2 : decode cL_restore 2 = .ok (.aload_n 0, 1) := by decide +kernel
theorem dL_restore_3 : decode cL_restore 3 = .ok (.iload_n 1, 1) := by decide +kernel
theorem dL_restore_4 : decode cL_restore 4 = .ok (.invokevirtual 38, 3) := by decide +kernel
theorem dL_restore_7 : decode cL_restore 7 = .ok (.i2l, 1) := by decide +kernel
theorem dL_restore_8 : decode cL_restore 8 = .ok (.lastore, 1) := by decide +kernel
theorem dL_restore_9 : decode cL_restore 9 = .ok (.goto 9, 3) := by decide +kernel
theorem dL_restore_12 : decode cL_restore 12 = .ok (.astore_n 3, 1) := by decide +kernel
theorem dL_restore_13 : decode cL_restore 13 = .ok (.iconst 1, 1) := by decide +kernel
theorem dL_restore_14 : decode cL_restore 14 = .ok (.ireturn, 1) := by decide +kernel
theorem dL_restore_15 : decode cL_restore 15 = .ok (.astore_n 3, 1) := by decide +kernel
theorem dL_restore_16 : decode cL_restore 16 = .ok (.iconst 2, 1) := by decide +kernel
theorem dL_restore_17 : decode cL_restore 17 = .ok (.ireturn, 1) := by decide +kernel
theorem dL_restore_18 : decode cL_restore 18 = .ok (.iconst 0, 1) := by decide +kernel
theorem dL_restore_19 : decode cL_restore 19 = .ok (.ireturn, 1) := by decide +kernel
theorem dL_areaOf_0 : decode cL_areaOf 0 = .ok (.aload_n 2, 1) := by decide +kernel
theorem dL_areaOf_1 : decode cL_areaOf 1 = .ok (.iconst 0, 1) := by decide +kernel
theorem dL_areaOf_2 : decode cL_areaOf 2 = .ok (.aload_n 0, 1) := by decide +kernel
theorem dL_areaOf_3 : decode cL_areaOf 3 = .ok (.iload_n 1, 1) := by decide +kernel
theorem dL_areaOf_4 : decode cL_areaOf 4 = .ok (.invokevirtual 41, 3) := by decide +kernel
theorem dL_areaOf_7 : decode cL_areaOf 7 = .ok (.i2l, 1) := by decide +kernel
theorem dL_areaOf_8 : decode cL_areaOf 8 = .ok (.lastore, 1) := by decide +kernel
theorem dL_areaOf_9 : decode cL_areaOf 9 = .ok (.goto 6, 3) := by decide +kernel
theorem dL_areaOf_12 : decode cL_areaOf 12 = .ok (.astore_n 3, 1) := by decide +kernel
theorem dL_areaOf_13 : decode cL_areaOf 13 = .ok (.iconst 1, 1) := by decide +kernel
theorem dL_areaOf_14 : decode cL_areaOf 14 = .ok (.ireturn, 1) := by decide +kernel
theorem dL_areaOf_15 : decode cL_areaOf 15 = .ok (.iconst 0, 1) := by decide +kernel
theorem dL_areaOf_16 : decode cL_areaOf 16 = .ok (.ireturn, 1) := by decide +kernel
theorem dL_isOnRoll_0 : decode cL_isOnRoll 0 = .ok (.aload_n 2, 1) := by decide +kernel
theorem dL_isOnRoll_1 : decode cL_isOnRoll 1 = .ok (.iconst 0, 1) := by decide +kernel
theorem dL_isOnRoll_2 : decode cL_isOnRoll 2 = .ok (.aload_n 0, 1) := by decide +kernel
theorem dL_isOnRoll_3 : decode cL_isOnRoll 3 = .ok (.iload_n 1, 1) := by decide +kernel
theorem dL_isOnRoll_4 : decode cL_isOnRoll 4 = .ok (.invokevirtual 44, 3) := by decide +kernel
theorem dL_isOnRoll_7 : decode cL_isOnRoll 7 = .ok (.ifCond .eq 7, 3) := by decide +kernel
theorem dL_isOnRoll_10 : decode cL_isOnRoll 10 = .ok (.lconst 1, 1) := by decide +kernel
theorem dL_isOnRoll_11 : decode cL_isOnRoll 11 = .ok (.goto 4, 3) := by decide +kernel
theorem dL_isOnRoll_14 : decode cL_isOnRoll 14 = .ok (.lconst 0, 1) := by decide +kernel
theorem dL_isOnRoll_15 : decode cL_isOnRoll 15 = .ok (.lastore, 1) := by decide +kernel
theorem dL_isOnRoll_16 : decode cL_isOnRoll 16 = .ok (.goto 6, 3) := by decide +kernel
theorem dL_isOnRoll_19 : decode cL_isOnRoll 19 = .ok (.astore_n 3, 1) := by decide +kernel
theorem dL_isOnRoll_20 : decode cL_isOnRoll 20 = .ok (.iconst 1, 1) := by decide +kernel
theorem dL_isOnRoll_21 : decode cL_isOnRoll 21 = .ok (.ireturn, 1) := by decide +kernel
theorem dL_isOnRoll_22 : decode cL_isOnRoll 22 = .ok (.iconst 0, 1) := by decide +kernel
theorem dL_isOnRoll_23 : decode cL_isOnRoll 23 = .ok (.ireturn, 1) := by decide +kernel
theorem dL_file_0 : decode cL_file 0 = .ok (.aload 7, 2) := by decide +kernel
theorem dL_file_2 : decode cL_file 2 = .ok (.iconst 0, 1) := by decide +kernel
theorem dL_file_3 : decode cL_file 3 = .ok (.aload_n 0, 1) := by decide +kernel
theorem dL_file_4 : decode cL_file 4 = .ok (.iload_n 1, 1) := by decide +kernel
theorem dL_file_5 : decode cL_file 5 = .ok (.iload_n 2, 1) := by decide +kernel
theorem dL_file_6 : decode cL_file 6 = .ok (.iload_n 3, 1) := by decide +kernel
theorem dL_file_7 : decode cL_file 7 = .ok (.iload 4, 2) := by decide +kernel
theorem dL_file_9 : decode cL_file 9 = .ok (.iload 5, 2) := by decide +kernel
theorem dL_file_11 : decode cL_file 11 = .ok (.iload 6, 2) := by decide +kernel
theorem dL_file_13 : decode cL_file 13 = .ok (.invokevirtual 48, 3) := by decide +kernel
theorem dL_file_16 : decode cL_file 16 = .ok (.i2l, 1) := by decide +kernel
theorem dL_file_17 : decode cL_file 17 = .ok (.lastore, 1) := by decide +kernel
theorem dL_file_18 : decode cL_file 18 = .ok (.goto 15, 3) := by decide +kernel
theorem dL_file_21 : decode cL_file 21 = .ok (.astore 8, 2) := by decide +kernel
theorem dL_file_23 : decode cL_file 23 = .ok (.iconst 1, 1) := by decide +kernel
theorem dL_file_24 : decode cL_file 24 = .ok (.ireturn, 1) := by decide +kernel
theorem dL_file_25 : decode cL_file 25 = .ok (.astore 8, 2) := by decide +kernel
theorem dL_file_27 : decode cL_file 27 = .ok (.iconst 2, 1) := by decide +kernel
theorem dL_file_28 : decode cL_file 28 = .ok (.ireturn, 1) := by decide +kernel
theorem dL_file_29 : decode cL_file 29 = .ok (.astore 8, 2) := by decide +kernel
theorem dL_file_31 : decode cL_file 31 = .ok (.iconst 3, 1) := by decide +kernel
theorem dL_file_32 : decode cL_file 32 = .ok (.ireturn, 1) := by decide +kernel
theorem dL_file_33 : decode cL_file 33 = .ok (.iconst 0, 1) := by decide +kernel
theorem dL_file_34 : decode cL_file 34 = .ok (.ireturn, 1) := by decide +kernel
theorem dL_sign_0 : decode cL_sign 0 = .ok (.aload_n 3, 1) := by decide +kernel
theorem dL_sign_1 : decode cL_sign 1 = .ok (.iconst 0, 1) := by decide +kernel
theorem dL_sign_2 : decode cL_sign 2 = .ok (.aload_n 0, 1) := by decide +kernel
theorem dL_sign_3 : decode cL_sign 3 = .ok (.iload_n 1, 1) := by decide +kernel
theorem dL_sign_4 : decode cL_sign 4 = .ok (.iload_n 2, 1) := by decide +kernel
theorem dL_sign_5 : decode cL_sign 5 = .ok (.invokevirtual 52, 3) := by decide +kernel
theorem dL_sign_8 : decode cL_sign 8 = .ok (.i2l, 1) := by decide +kernel
theorem dL_sign_9 : decode cL_sign 9 = .ok (.lastore, 1) := by decide +kernel
theorem dL_sign_10 : decode cL_sign 10 = .ok (.goto 11, 3) := by decide +kernel
theorem dL_sign_13 : decode cL_sign 13 = .ok (.astore 4, 2) := by decide +kernel
theorem dL_sign_15 : decode cL_sign 15 = .ok (.iconst 1, 1) := by decide +kernel
theorem dL_sign_16 : decode cL_sign 16 = .ok (.ireturn, 1) := by decide +kernel
theorem dL_sign_17 : decode cL_sign 17 = .ok (.astore 4, 2) := by decide +kernel
theorem dL_sign_19 : decode cL_sign 19 = .ok (.iconst 2, 1) := by decide +kernel
theorem dL_sign_20 : decode cL_sign 20 = .ok (.ireturn, 1) := by decide +kernel
theorem dL_sign_21 : decode cL_sign 21 = .ok (.iconst 0, 1) := by decide +kernel
theorem dL_sign_22 : decode cL_sign 22 = .ok (.ireturn, 1) := by decide +kernel
theorem dL_pay_0 : decode cL_pay 0 = .ok (.aload_n 3, 1) := by decide +kernel
theorem dL_pay_1 : decode cL_pay 1 = .ok (.iconst 0, 1) := by decide +kernel
theorem dL_pay_2 : decode cL_pay 2 = .ok (.aload_n 0, 1) := by decide +kernel
theorem dL_pay_3 : decode cL_pay 3 = .ok (.iload_n 1, 1) := by decide +kernel
theorem dL_pay_4 : decode cL_pay 4 = .ok (.iload_n 2, 1) := by decide +kernel
theorem dL_pay_5 : decode cL_pay 5 = .ok (.invokevirtual 55, 3) := by decide +kernel
theorem dL_pay_8 : decode cL_pay 8 = .ok (.i2l, 1) := by decide +kernel
theorem dL_pay_9 : decode cL_pay 9 = .ok (.lastore, 1) := by decide +kernel
theorem dL_pay_10 : decode cL_pay 10 = .ok (.goto 15, 3) := by decide +kernel
theorem dL_pay_13 : decode cL_pay 13 = .ok (.astore 4, 2) := by decide +kernel
theorem dL_pay_15 : decode cL_pay 15 = .ok (.iconst 1, 1) := by decide +kernel
theorem dL_pay_16 : decode cL_pay 16 = .ok (.ireturn, 1) := by decide +kernel
theorem dL_pay_17 : decode cL_pay 17 = .ok (.astore 4, 2) := by decide +kernel
theorem dL_pay_19 : decode cL_pay 19 = .ok (.iconst 2, 1) := by decide +kernel
theorem dL_pay_20 : decode cL_pay 20 = .ok (.ireturn, 1) := by decide +kernel
theorem dL_pay_21 : decode cL_pay 21 = .ok (.astore 4, 2) := by decide +kernel
theorem dL_pay_23 : decode cL_pay 23 = .ok (.iconst 3, 1) := by decide +kernel
theorem dL_pay_24 : decode cL_pay 24 = .ok (.ireturn, 1) := by decide +kernel
theorem dL_pay_25 : decode cL_pay 25 = .ok (.iconst 0, 1) := by decide +kernel
theorem dL_pay_26 : decode cL_pay 26 = .ok (.ireturn, 1) := by decide +kernel
theorem dL_withdraw_0 : decode cL_withdraw 0 = .ok (.aload_n 2, 1) := by decide +kernel
theorem dL_withdraw_1 : decode cL_withdraw 1 = .ok (.iconst 0, 1) := by decide +kernel
theorem dL_withdraw_2 : decode cL_withdraw 2 = .ok (.aload_n 0, 1) := by decide +kernel
theorem dL_withdraw_3 : decode cL_withdraw 3 = .ok (.iload_n 1, 1) := by decide +kernel
theorem dL_withdraw_4 : decode cL_withdraw 4 = .ok (.invokevirtual 58, 3) := by decide +kernel
theorem dL_withdraw_7 : decode cL_withdraw 7 = .ok (.i2l, 1) := by decide +kernel
theorem dL_withdraw_8 : decode cL_withdraw 8 = .ok (.lastore, 1) := by decide +kernel
theorem dL_withdraw_9 : decode cL_withdraw 9 = .ok (.goto 9, 3) := by decide +kernel
theorem dL_withdraw_12 : decode cL_withdraw 12 = .ok (.astore_n 3, 1) := by decide +kernel
theorem dL_withdraw_13 : decode cL_withdraw 13 = .ok (.iconst 1, 1) := by decide +kernel
theorem dL_withdraw_14 : decode cL_withdraw 14 = .ok (.ireturn, 1) := by decide +kernel
theorem dL_withdraw_15 : decode cL_withdraw 15 = .ok (.astore_n 3, 1) := by decide +kernel
theorem dL_withdraw_16 : decode cL_withdraw 16 = .ok (.iconst 2, 1) := by decide +kernel
theorem dL_withdraw_17 : decode cL_withdraw 17 = .ok (.ireturn, 1) := by decide +kernel
theorem dL_withdraw_18 : decode cL_withdraw 18 = .ok (.iconst 0, 1) := by decide +kernel
theorem dL_withdraw_19 : decode cL_withdraw 19 = .ok (.ireturn, 1) := by decide +kernel
theorem dL_die_0 : decode cL_die 0 = .ok (.aload_n 2, 1) := by decide +kernel
theorem dL_die_1 : decode cL_die 1 = .ok (.iconst 0, 1) := by decide +kernel
theorem dL_die_2 : decode cL_die 2 = .ok (.aload_n 0, 1) := by decide +kernel
theorem dL_die_3 : decode cL_die 3 = .ok (.iload_n 1, 1) := by decide +kernel
theorem dL_die_4 : decode cL_die 4 = .ok (.invokevirtual 61, 3) := by decide +kernel
theorem dL_die_7 : decode cL_die 7 = .ok (.ifCond .eq 7, 3) := by decide +kernel
theorem dL_die_10 : decode cL_die 10 = .ok (.lconst 1, 1) := by decide +kernel
theorem dL_die_11 : decode cL_die 11 = .ok (.goto 4, 3) := by decide +kernel
theorem dL_die_14 : decode cL_die 14 = .ok (.lconst 0, 1) := by decide +kernel
theorem dL_die_15 : decode cL_die 15 = .ok (.lastore, 1) := by decide +kernel
theorem dL_die_16 : decode cL_die 16 = .ok (.goto 9, 3) := by decide +kernel
theorem dL_die_19 : decode cL_die 19 = .ok (.astore_n 3, 1) := by decide +kernel
theorem dL_die_20 : decode cL_die 20 = .ok (.iconst 1, 1) := by decide +kernel
theorem dL_die_21 : decode cL_die 21 = .ok (.ireturn, 1) := by decide +kernel
theorem dL_die_22 : decode cL_die 22 = .ok (.astore_n 3, 1) := by decide +kernel
theorem dL_die_23 : decode cL_die 23 = .ok (.iconst 2, 1) := by decide +kernel
theorem dL_die_24 : decode cL_die 24 = .ok (.ireturn, 1) := by decide +kernel
theorem dL_die_25 : decode cL_die 25 = .ok (.iconst 0, 1) := by decide +kernel
theorem dL_die_26 : decode cL_die 26 = .ok (.ireturn, 1) := by decide +kernel
theorem dL_replace_0 : decode cL_replace 0 = .ok (.aload 6, 2) := by decide +kernel
theorem dL_replace_2 : decode cL_replace 2 = .ok (.iconst 0, 1) := by decide +kernel
theorem dL_replace_3 : decode cL_replace 3 = .ok (.aload_n 0, 1) := by decide +kernel
theorem dL_replace_4 : decode cL_replace 4 = .ok (.iload_n 1, 1) := by decide +kernel
theorem dL_replace_5 : decode cL_replace 5 = .ok (.iload_n 2, 1) := by decide +kernel
theorem dL_replace_6 : decode cL_replace 6 = .ok (.iload_n 3, 1) := by decide +kernel
theorem dL_replace_7 : decode cL_replace 7 = .ok (.iload 4, 2) := by decide +kernel
theorem dL_replace_9 : decode cL_replace 9 = .ok (.iload 5, 2) := by decide +kernel
theorem dL_replace_11 : decode cL_replace 11 = .ok (.invokevirtual 64, 3) := by decide +kernel
theorem dL_replace_14 : decode cL_replace 14 = .ok (.i2l, 1) := by decide +kernel
theorem dL_replace_15 : decode cL_replace 15 = .ok (.lastore, 1) := by decide +kernel
theorem dL_replace_16 : decode cL_replace 16 = .ok (.goto 15, 3) := by decide +kernel
theorem dL_replace_19 : decode cL_replace 19 = .ok (.astore 7, 2) := by decide +kernel
theorem dL_replace_21 : decode cL_replace 21 = .ok (.iconst 1, 1) := by decide +kernel
theorem dL_replace_22 : decode cL_replace 22 = .ok (.ireturn, 1) := by decide +kernel
theorem dL_replace_23 : decode cL_replace 23 = .ok (.astore 7, 2) := by decide +kernel
theorem dL_replace_25 : decode cL_replace 25 = .ok (.iconst 2, 1) := by decide +kernel
theorem dL_replace_26 : decode cL_replace 26 = .ok (.ireturn, 1) := by decide +kernel
theorem dL_replace_27 : decode cL_replace 27 = .ok (.astore 7, 2) := by decide +kernel
theorem dL_replace_29 : decode cL_replace 29 = .ok (.iconst 3, 1) := by decide +kernel
theorem dL_replace_30 : decode cL_replace 30 = .ok (.ireturn, 1) := by decide +kernel
theorem dL_replace_31 : decode cL_replace 31 = .ok (.iconst 0, 1) := by decide +kernel
theorem dL_replace_32 : decode cL_replace 32 = .ok (.ireturn, 1) := by decide +kernel
theorem dL_isReplaceable_0 : decode cL_isReplaceable 0 = .ok (.aload_n 2, 1) := by decide +kernel
theorem dL_isReplaceable_1 : decode cL_isReplaceable 1 = .ok (.iconst 0, 1) := by decide +kernel
theorem dL_isReplaceable_2 : decode cL_isReplaceable 2 = .ok (.aload_n 0, 1) := by decide +kernel
theorem dL_isReplaceable_3 : decode cL_isReplaceable 3 = .ok (.iload_n 1, 1) := by decide +kernel
theorem dL_isReplaceable_4 : decode cL_isReplaceable 4 = .ok (.invokevirtual 68, 3) := by decide +kernel
theorem dL_isReplaceable_7 : decode cL_isReplaceable 7 = .ok (.ifCond .eq 7, 3) := by decide +kernel
theorem dL_isReplaceable_10 : decode cL_isReplaceable 10 = .ok (.lconst 1, 1) := by decide +kernel
theorem dL_isReplaceable_11 : decode cL_isReplaceable 11 = .ok (.goto 4, 3) := by decide +kernel
theorem dL_isReplaceable_14 : decode cL_isReplaceable 14 = .ok (.lconst 0, 1) := by decide +kernel
theorem dL_isReplaceable_15 : decode cL_isReplaceable 15 = .ok (.lastore, 1) := by decide +kernel
theorem dL_isReplaceable_16 : decode cL_isReplaceable 16 = .ok (.goto 6, 3) := by decide +kernel
theorem dL_isReplaceable_19 : decode cL_isReplaceable 19 = .ok (.astore_n 3, 1) := by decide +kernel
theorem dL_isReplaceable_20 : decode cL_isReplaceable 20 = .ok (.iconst 1, 1) := by decide +kernel
theorem dL_isReplaceable_21 : decode cL_isReplaceable 21 = .ok (.ireturn, 1) := by decide +kernel
theorem dL_isReplaceable_22 : decode cL_isReplaceable 22 = .ok (.iconst 0, 1) := by decide +kernel
theorem dL_isReplaceable_23 : decode cL_isReplaceable 23 = .ok (.ireturn, 1) := by decide +kernel
theorem dL_surname_0 : decode cL_surname 0 = .ok (.aload_n 3, 1) := by decide +kernel
theorem dL_surname_1 : decode cL_surname 1 = .ok (.iconst 0, 1) := by decide +kernel
theorem dL_surname_2 : decode cL_surname 2 = .ok (.aload_n 0, 1) := by decide +kernel
theorem dL_surname_3 : decode cL_surname 3 = .ok (.iload_n 1, 1) := by decide +kernel
theorem dL_surname_4 : decode cL_surname 4 = .ok (.iload_n 2, 1) := by decide +kernel
theorem dL_surname_5 : decode cL_surname 5 = .ok (.invokevirtual 71, 3) := by decide +kernel
theorem dL_surname_8 : decode cL_surname 8 = .ok (.i2l, 1) := by decide +kernel
theorem dL_surname_9 : decode cL_surname 9 = .ok (.lastore, 1) := by decide +kernel
theorem dL_surname_10 : decode cL_surname 10 = .ok (.goto 7, 3) := by decide +kernel
theorem dL_surname_13 : decode cL_surname 13 = .ok (.astore 4, 2) := by decide +kernel
theorem dL_surname_15 : decode cL_surname 15 = .ok (.iconst 1, 1) := by decide +kernel
theorem dL_surname_16 : decode cL_surname 16 = .ok (.ireturn, 1) := by decide +kernel
theorem dL_surname_17 : decode cL_surname 17 = .ok (.iconst 0, 1) := by decide +kernel
theorem dL_surname_18 : decode cL_surname 18 = .ok (.ireturn, 1) := by decide +kernel
theorem dL_counted_0 : decode cL_counted 0 = .ok (.aload_n 2, 1) := by decide +kernel
theorem dL_counted_1 : decode cL_counted 1 = .ok (.iconst 0, 1) := by decide +kernel
theorem dL_counted_2 : decode cL_counted 2 = .ok (.aload_n 0, 1) := by decide +kernel
theorem dL_counted_3 : decode cL_counted 3 = .ok (.iload_n 1, 1) := by decide +kernel
theorem dL_counted_4 : decode cL_counted 4 = .ok (.invokevirtual 75, 3) := by decide +kernel
theorem dL_counted_7 : decode cL_counted 7 = .ok (.i2l, 1) := by decide +kernel
theorem dL_counted_8 : decode cL_counted 8 = .ok (.lastore, 1) := by decide +kernel
theorem dL_counted_9 : decode cL_counted 9 = .ok (.goto 6, 3) := by decide +kernel
theorem dL_counted_12 : decode cL_counted 12 = .ok (.astore_n 3, 1) := by decide +kernel
theorem dL_counted_13 : decode cL_counted 13 = .ok (.iconst 1, 1) := by decide +kernel
theorem dL_counted_14 : decode cL_counted 14 = .ok (.ireturn, 1) := by decide +kernel
theorem dL_counted_15 : decode cL_counted 15 = .ok (.iconst 0, 1) := by decide +kernel
theorem dL_counted_16 : decode cL_counted 16 = .ok (.ireturn, 1) := by decide +kernel
theorem dL_signatureResult_0 : decode cL_signatureResult 0 = .ok (.aload_n 2, 1) := by decide +kernel
theorem dL_signatureResult_1 : decode cL_signatureResult 1 = .ok (.iconst 0, 1) := by decide +kernel
theorem dL_signatureResult_2 : decode cL_signatureResult 2 = .ok (.aload_n 0, 1) := by decide +kernel
theorem dL_signatureResult_3 : decode cL_signatureResult 3 = .ok (.iload_n 1, 1) := by decide +kernel
theorem dL_signatureResult_4 : decode cL_signatureResult 4 = .ok (.invokevirtual 78, 3) := by decide +kernel
theorem dL_signatureResult_7 : decode cL_signatureResult 7 = .ok (.i2l, 1) := by decide +kernel
theorem dL_signatureResult_8 : decode cL_signatureResult 8 = .ok (.lastore, 1) := by decide +kernel
theorem dL_signatureResult_9 : decode cL_signatureResult 9 = .ok (.goto 6, 3) := by decide +kernel
theorem dL_signatureResult_12 : decode cL_signatureResult 12 = .ok (.astore_n 3, 1) := by decide +kernel
theorem dL_signatureResult_13 : decode cL_signatureResult 13 = .ok (.iconst 1, 1) := by decide +kernel
theorem dL_signatureResult_14 : decode cL_signatureResult 14 = .ok (.ireturn, 1) := by decide +kernel
theorem dL_signatureResult_15 : decode cL_signatureResult 15 = .ok (.iconst 0, 1) := by decide +kernel
theorem dL_signatureResult_16 : decode cL_signatureResult 16 = .ok (.ireturn, 1) := by decide +kernel
theorem dL_wouldCount_0 : decode cL_wouldCount 0 = .ok (.aload_n 3, 1) := by decide +kernel
theorem dL_wouldCount_1 : decode cL_wouldCount 1 = .ok (.iconst 0, 1) := by decide +kernel
theorem dL_wouldCount_2 : decode cL_wouldCount 2 = .ok (.aload_n 0, 1) := by decide +kernel
theorem dL_wouldCount_3 : decode cL_wouldCount 3 = .ok (.iload_n 1, 1) := by decide +kernel
theorem dL_wouldCount_4 : decode cL_wouldCount 4 = .ok (.iload_n 2, 1) := by decide +kernel
theorem dL_wouldCount_5 : decode cL_wouldCount 5 = .ok (.invokevirtual 81, 3) := by decide +kernel
theorem dL_wouldCount_8 : decode cL_wouldCount 8 = .ok (.ifCond .eq 7, 3) := by decide +kernel
theorem dL_wouldCount_11 : decode cL_wouldCount 11 = .ok (.lconst 1, 1) := by decide +kernel
theorem dL_wouldCount_12 : decode cL_wouldCount 12 = .ok (.goto 4, 3) := by decide +kernel
theorem dL_wouldCount_15 : decode cL_wouldCount 15 = .ok (.lconst 0, 1) := by decide +kernel
theorem dL_wouldCount_16 : decode cL_wouldCount 16 = .ok (.lastore, 1) := by decide +kernel
theorem dL_wouldCount_17 : decode cL_wouldCount 17 = .ok (.goto 11, 3) := by decide +kernel
theorem dL_wouldCount_20 : decode cL_wouldCount 20 = .ok (.astore 4, 2) := by decide +kernel
theorem dL_wouldCount_22 : decode cL_wouldCount 22 = .ok (.iconst 1, 1) := by decide +kernel
theorem dL_wouldCount_23 : decode cL_wouldCount 23 = .ok (.ireturn, 1) := by decide +kernel
theorem dL_wouldCount_24 : decode cL_wouldCount 24 = .ok (.astore 4, 2) := by decide +kernel
theorem dL_wouldCount_26 : decode cL_wouldCount 26 = .ok (.iconst 2, 1) := by decide +kernel
theorem dL_wouldCount_27 : decode cL_wouldCount 27 = .ok (.ireturn, 1) := by decide +kernel
theorem dL_wouldCount_28 : decode cL_wouldCount 28 = .ok (.iconst 0, 1) := by decide +kernel
theorem dL_wouldCount_29 : decode cL_wouldCount 29 = .ok (.ireturn, 1) := by decide +kernel
theorem dL_paperOf_0 : decode cL_paperOf 0 = .ok (.aload_n 2, 1) := by decide +kernel
theorem dL_paperOf_1 : decode cL_paperOf 1 = .ok (.iconst 0, 1) := by decide +kernel
theorem dL_paperOf_2 : decode cL_paperOf 2 = .ok (.aload_n 0, 1) := by decide +kernel
theorem dL_paperOf_3 : decode cL_paperOf 3 = .ok (.iload_n 1, 1) := by decide +kernel
theorem dL_paperOf_4 : decode cL_paperOf 4 = .ok (.invokevirtual 85, 3) := by decide +kernel
theorem dL_paperOf_7 : decode cL_paperOf 7 = .ok (.i2l, 1) := by decide +kernel
theorem dL_paperOf_8 : decode cL_paperOf 8 = .ok (.lastore, 1) := by decide +kernel
theorem dL_paperOf_9 : decode cL_paperOf 9 = .ok (.goto 9, 3) := by decide +kernel
theorem dL_paperOf_12 : decode cL_paperOf 12 = .ok (.astore_n 3, 1) := by decide +kernel
theorem dL_paperOf_13 : decode cL_paperOf 13 = .ok (.iconst 1, 1) := by decide +kernel
theorem dL_paperOf_14 : decode cL_paperOf 14 = .ok (.ireturn, 1) := by decide +kernel
theorem dL_paperOf_15 : decode cL_paperOf 15 = .ok (.astore_n 3, 1) := by decide +kernel
theorem dL_paperOf_16 : decode cL_paperOf 16 = .ok (.iconst 2, 1) := by decide +kernel
theorem dL_paperOf_17 : decode cL_paperOf 17 = .ok (.ireturn, 1) := by decide +kernel
theorem dL_paperOf_18 : decode cL_paperOf 18 = .ok (.iconst 0, 1) := by decide +kernel
theorem dL_paperOf_19 : decode cL_paperOf 19 = .ok (.ireturn, 1) := by decide +kernel
theorem dL_gain_0 : decode cL_gain 0 = .ok (.aload_n 3, 1) := by decide +kernel
theorem dL_gain_1 : decode cL_gain 1 = .ok (.iconst 0, 1) := by decide +kernel
theorem dL_gain_2 : decode cL_gain 2 = .ok (.aload_n 0, 1) := by decide +kernel
theorem dL_gain_3 : decode cL_gain 3 = .ok (.iload_n 1, 1) := by decide +kernel
theorem dL_gain_4 : decode cL_gain 4 = .ok (.iload_n 2, 1) := by decide +kernel
theorem dL_gain_5 : decode cL_gain 5 = .ok (.invokevirtual 90, 3) := by decide +kernel
theorem dL_gain_8 : decode cL_gain 8 = .ok (.i2l, 1) := by decide +kernel
theorem dL_gain_9 : decode cL_gain 9 = .ok (.lastore, 1) := by decide +kernel
theorem dL_gain_10 : decode cL_gain 10 = .ok (.goto 15, 3) := by decide +kernel
theorem dL_gain_13 : decode cL_gain 13 = .ok (.astore 4, 2) := by decide +kernel
theorem dL_gain_15 : decode cL_gain 15 = .ok (.iconst 1, 1) := by decide +kernel
theorem dL_gain_16 : decode cL_gain 16 = .ok (.ireturn, 1) := by decide +kernel
theorem dL_gain_17 : decode cL_gain 17 = .ok (.astore 4, 2) := by decide +kernel
theorem dL_gain_19 : decode cL_gain 19 = .ok (.iconst 2, 1) := by decide +kernel
theorem dL_gain_20 : decode cL_gain 20 = .ok (.ireturn, 1) := by decide +kernel
theorem dL_gain_21 : decode cL_gain 21 = .ok (.astore 4, 2) := by decide +kernel
theorem dL_gain_23 : decode cL_gain 23 = .ok (.iconst 3, 1) := by decide +kernel
theorem dL_gain_24 : decode cL_gain 24 = .ok (.ireturn, 1) := by decide +kernel
theorem dL_gain_25 : decode cL_gain 25 = .ok (.iconst 0, 1) := by decide +kernel
theorem dL_gain_26 : decode cL_gain 26 = .ok (.ireturn, 1) := by decide +kernel
theorem dL_fewestWithdrawals_0 : decode cL_fewestWithdrawals 0 = .ok (.aload_n 2, 1) := by decide +kernel
theorem dL_fewestWithdrawals_1 : decode cL_fewestWithdrawals 1 = .ok (.iconst 0, 1) := by decide +kernel
theorem dL_fewestWithdrawals_2 : decode cL_fewestWithdrawals 2 = .ok (.aload_n 0, 1) := by decide +kernel
theorem dL_fewestWithdrawals_3 : decode cL_fewestWithdrawals 3 = .ok (.iload_n 1, 1) := by decide +kernel
theorem dL_fewestWithdrawals_4 : decode cL_fewestWithdrawals 4 = .ok (.invokevirtual 93, 3) := by decide +kernel
theorem dL_fewestWithdrawals_7 : decode cL_fewestWithdrawals 7 = .ok (.i2l, 1) := by decide +kernel
theorem dL_fewestWithdrawals_8 : decode cL_fewestWithdrawals 8 = .ok (.lastore, 1) := by decide +kernel
theorem dL_fewestWithdrawals_9 : decode cL_fewestWithdrawals 9 = .ok (.goto 12, 3) := by decide +kernel
theorem dL_fewestWithdrawals_12 : decode cL_fewestWithdrawals 12 = .ok (.astore_n 3, 1) := by decide +kernel
theorem dL_fewestWithdrawals_13 : decode cL_fewestWithdrawals 13 = .ok (.iconst 1, 1) := by decide +kernel
theorem dL_fewestWithdrawals_14 : decode cL_fewestWithdrawals 14 = .ok (.ireturn, 1) := by decide +kernel
theorem dL_fewestWithdrawals_15 : decode cL_fewestWithdrawals 15 = .ok (.astore_n 3, 1) := by decide +kernel
theorem dL_fewestWithdrawals_16 : decode cL_fewestWithdrawals 16 = .ok (.iconst 2, 1) := by decide +kernel
theorem dL_fewestWithdrawals_17 : decode cL_fewestWithdrawals 17 = .ok (.ireturn, 1) := by decide +kernel
theorem dL_fewestWithdrawals_18 : decode cL_fewestWithdrawals 18 = .ok (.astore_n 3, 1) := by decide +kernel
theorem dL_fewestWithdrawals_19 : decode cL_fewestWithdrawals 19 = .ok (.iconst 3, 1) := by decide +kernel
theorem dL_fewestWithdrawals_20 : decode cL_fewestWithdrawals 20 = .ok (.ireturn, 1) := by decide +kernel
theorem dL_fewestWithdrawals_21 : decode cL_fewestWithdrawals 21 = .ok (.iconst 0, 1) := by decide +kernel
theorem dL_fewestWithdrawals_22 : decode cL_fewestWithdrawals 22 = .ok (.ireturn, 1) := by decide +kernel
theorem dL_reason_0 : decode cL_reason 0 = .ok (.aload_n 2, 1) := by decide +kernel
theorem dL_reason_1 : decode cL_reason 1 = .ok (.iconst 0, 1) := by decide +kernel
theorem dL_reason_2 : decode cL_reason 2 = .ok (.aload_n 0, 1) := by decide +kernel
theorem dL_reason_3 : decode cL_reason 3 = .ok (.iload_n 1, 1) := by decide +kernel
theorem dL_reason_4 : decode cL_reason 4 = .ok (.invokevirtual 96, 3) := by decide +kernel
theorem dL_reason_7 : decode cL_reason 7 = .ok (.i2l, 1) := by decide +kernel
theorem dL_reason_8 : decode cL_reason 8 = .ok (.lastore, 1) := by decide +kernel
theorem dL_reason_9 : decode cL_reason 9 = .ok (.goto 6, 3) := by decide +kernel
theorem dL_reason_12 : decode cL_reason 12 = .ok (.astore_n 3, 1) := by decide +kernel
theorem dL_reason_13 : decode cL_reason 13 = .ok (.iconst 1, 1) := by decide +kernel
theorem dL_reason_14 : decode cL_reason 14 = .ok (.ireturn, 1) := by decide +kernel
theorem dL_reason_15 : decode cL_reason 15 = .ok (.iconst 0, 1) := by decide +kernel
theorem dL_reason_16 : decode cL_reason 16 = .ok (.ireturn, 1) := by decide +kernel
theorem dL_reasonByReplay_0 : decode cL_reasonByReplay 0 = .ok (.aload_n 2, 1) := by decide +kernel
theorem dL_reasonByReplay_1 : decode cL_reasonByReplay 1 = .ok (.iconst 0, 1) := by decide +kernel
theorem dL_reasonByReplay_2 : decode cL_reasonByReplay 2 = .ok (.aload_n 0, 1) := by decide +kernel
theorem dL_reasonByReplay_3 : decode cL_reasonByReplay 3 = .ok (.iload_n 1, 1) := by decide +kernel
theorem dL_reasonByReplay_4 : decode cL_reasonByReplay 4 = .ok (.invokevirtual 99, 3) := by decide +kernel
theorem dL_reasonByReplay_7 : decode cL_reasonByReplay 7 = .ok (.i2l, 1) := by decide +kernel
theorem dL_reasonByReplay_8 : decode cL_reasonByReplay 8 = .ok (.lastore, 1) := by decide +kernel
theorem dL_reasonByReplay_9 : decode cL_reasonByReplay 9 = .ok (.goto 6, 3) := by decide +kernel
theorem dL_reasonByReplay_12 : decode cL_reasonByReplay 12 = .ok (.astore_n 3, 1) := by decide +kernel
theorem dL_reasonByReplay_13 : decode cL_reasonByReplay 13 = .ok (.iconst 1, 1) := by decide +kernel
theorem dL_reasonByReplay_14 : decode cL_reasonByReplay 14 = .ok (.ireturn, 1) := by decide +kernel
theorem dL_reasonByReplay_15 : decode cL_reasonByReplay 15 = .ok (.iconst 0, 1) := by decide +kernel
theorem dL_reasonByReplay_16 : decode cL_reasonByReplay 16 = .ok (.ireturn, 1) := by decide +kernel
theorem dL_ballotSize_0 : decode cL_ballotSize 0 = .ok (.aload_n 2, 1) := by decide +kernel
theorem dL_ballotSize_1 : decode cL_ballotSize 1 = .ok (.iconst 0, 1) := by decide +kernel
theorem dL_ballotSize_2 : decode cL_ballotSize 2 = .ok (.aload_n 0, 1) := by decide +kernel
theorem dL_ballotSize_3 : decode cL_ballotSize 3 = .ok (.iload_n 1, 1) := by decide +kernel
theorem dL_ballotSize_4 : decode cL_ballotSize 4 = .ok (.invokevirtual 102, 3) := by decide +kernel
theorem dL_ballotSize_7 : decode cL_ballotSize 7 = .ok (.i2l, 1) := by decide +kernel
theorem dL_ballotSize_8 : decode cL_ballotSize 8 = .ok (.lastore, 1) := by decide +kernel
theorem dL_ballotSize_9 : decode cL_ballotSize 9 = .ok (.goto 6, 3) := by decide +kernel
theorem dL_ballotSize_12 : decode cL_ballotSize 12 = .ok (.astore_n 3, 1) := by decide +kernel
theorem dL_ballotSize_13 : decode cL_ballotSize 13 = .ok (.iconst 1, 1) := by decide +kernel
theorem dL_ballotSize_14 : decode cL_ballotSize 14 = .ok (.ireturn, 1) := by decide +kernel
theorem dL_ballotSize_15 : decode cL_ballotSize 15 = .ok (.iconst 0, 1) := by decide +kernel
theorem dL_ballotSize_16 : decode cL_ballotSize 16 = .ok (.ireturn, 1) := by decide +kernel
theorem dL_draw_0 : decode cL_draw 0 = .ok (.aload_n 2, 1) := by decide +kernel
theorem dL_draw_1 : decode cL_draw 1 = .ok (.iconst 0, 1) := by decide +kernel
theorem dL_draw_2 : decode cL_draw 2 = .ok (.aload_n 0, 1) := by decide +kernel
theorem dL_draw_3 : decode cL_draw 3 = .ok (.iload_n 1, 1) := by decide +kernel
theorem dL_draw_4 : decode cL_draw 4 = .ok (.invokevirtual 105, 3) := by decide +kernel
theorem dL_draw_7 : decode cL_draw 7 = .ok (.i2l, 1) := by decide +kernel
theorem dL_draw_8 : decode cL_draw 8 = .ok (.lastore, 1) := by decide +kernel
theorem dL_draw_9 : decode cL_draw 9 = .ok (.goto 6, 3) := by decide +kernel
theorem dL_draw_12 : decode cL_draw 12 = .ok (.astore_n 3, 1) := by decide +kernel
theorem dL_draw_13 : decode cL_draw 13 = .ok (.iconst 1, 1) := by decide +kernel
theorem dL_draw_14 : decode cL_draw 14 = .ok (.ireturn, 1) := by decide +kernel
theorem dL_draw_15 : decode cL_draw 15 = .ok (.iconst 0, 1) := by decide +kernel
theorem dL_draw_16 : decode cL_draw 16 = .ok (.ireturn, 1) := by decide +kernel
theorem dL_letter_0 : decode cL_letter 0 = .ok (.aload_n 2, 1) := by decide +kernel
theorem dL_letter_1 : decode cL_letter 1 = .ok (.iconst 0, 1) := by decide +kernel
theorem dL_letter_2 : decode cL_letter 2 = .ok (.aload_n 0, 1) := by decide +kernel
theorem dL_letter_3 : decode cL_letter 3 = .ok (.iload_n 1, 1) := by decide +kernel
theorem dL_letter_4 : decode cL_letter 4 = .ok (.invokevirtual 109, 3) := by decide +kernel
theorem dL_letter_7 : decode cL_letter 7 = .ok (.i2l, 1) := by decide +kernel
theorem dL_letter_8 : decode cL_letter 8 = .ok (.lastore, 1) := by decide +kernel
theorem dL_letter_9 : decode cL_letter 9 = .ok (.goto 9, 3) := by decide +kernel
theorem dL_letter_12 : decode cL_letter 12 = .ok (.astore_n 3, 1) := by decide +kernel
theorem dL_letter_13 : decode cL_letter 13 = .ok (.iconst 1, 1) := by decide +kernel
theorem dL_letter_14 : decode cL_letter 14 = .ok (.ireturn, 1) := by decide +kernel
theorem dL_letter_15 : decode cL_letter 15 = .ok (.astore_n 3, 1) := by decide +kernel
theorem dL_letter_16 : decode cL_letter 16 = .ok (.iconst 2, 1) := by decide +kernel
theorem dL_letter_17 : decode cL_letter 17 = .ok (.ireturn, 1) := by decide +kernel
theorem dL_letter_18 : decode cL_letter 18 = .ok (.iconst 0, 1) := by decide +kernel
theorem dL_letter_19 : decode cL_letter 19 = .ok (.ireturn, 1) := by decide +kernel
theorem dL_ballot_0 : decode cL_ballot 0 = .ok (.aload 4, 2) := by decide +kernel
theorem dL_ballot_2 : decode cL_ballot 2 = .ok (.iconst 0, 1) := by decide +kernel
theorem dL_ballot_3 : decode cL_ballot 3 = .ok (.aload_n 0, 1) := by decide +kernel
theorem dL_ballot_4 : decode cL_ballot 4 = .ok (.iload_n 1, 1) := by decide +kernel
theorem dL_ballot_5 : decode cL_ballot 5 = .ok (.iload_n 2, 1) := by decide +kernel
theorem dL_ballot_6 : decode cL_ballot 6 = .ok (.iload_n 3, 1) := by decide +kernel
theorem dL_ballot_7 : decode cL_ballot 7 = .ok (.invokevirtual 112, 3) := by decide +kernel
theorem dL_ballot_10 : decode cL_ballot 10 = .ok (.i2l, 1) := by decide +kernel
theorem dL_ballot_11 : decode cL_ballot 11 = .ok (.lastore, 1) := by decide +kernel
theorem dL_ballot_12 : decode cL_ballot 12 = .ok (.goto 19, 3) := by decide +kernel
theorem dL_ballot_15 : decode cL_ballot 15 = .ok (.astore 5, 2) := by decide +kernel
theorem dL_ballot_17 : decode cL_ballot 17 = .ok (.iconst 1, 1) := by decide +kernel
theorem dL_ballot_18 : decode cL_ballot 18 = .ok (.ireturn, 1) := by decide +kernel
theorem dL_ballot_19 : decode cL_ballot 19 = .ok (.astore 5, 2) := by decide +kernel
theorem dL_ballot_21 : decode cL_ballot 21 = .ok (.iconst 2, 1) := by decide +kernel
theorem dL_ballot_22 : decode cL_ballot 22 = .ok (.ireturn, 1) := by decide +kernel
theorem dL_ballot_23 : decode cL_ballot 23 = .ok (.astore 5, 2) := by decide +kernel
theorem dL_ballot_25 : decode cL_ballot 25 = .ok (.iconst 3, 1) := by decide +kernel
theorem dL_ballot_26 : decode cL_ballot 26 = .ok (.ireturn, 1) := by decide +kernel
theorem dL_ballot_27 : decode cL_ballot 27 = .ok (.astore 5, 2) := by decide +kernel
theorem dL_ballot_29 : decode cL_ballot 29 = .ok (.iconst 4, 1) := by decide +kernel
theorem dL_ballot_30 : decode cL_ballot 30 = .ok (.ireturn, 1) := by decide +kernel
theorem dL_ballot_31 : decode cL_ballot 31 = .ok (.iconst 0, 1) := by decide +kernel
theorem dL_ballot_32 : decode cL_ballot 32 = .ok (.ireturn, 1) := by decide +kernel
theorem dL_placeOnBallot_0 : decode cL_placeOnBallot 0 = .ok (.aload_n 3, 1) := by decide +kernel
theorem dL_placeOnBallot_1 : decode cL_placeOnBallot 1 = .ok (.iconst 0, 1) := by decide +kernel
theorem dL_placeOnBallot_2 : decode cL_placeOnBallot 2 = .ok (.aload_n 0, 1) := by decide +kernel
theorem dL_placeOnBallot_3 : decode cL_placeOnBallot 3 = .ok (.iload_n 1, 1) := by decide +kernel
theorem dL_placeOnBallot_4 : decode cL_placeOnBallot 4 = .ok (.iload_n 2, 1) := by decide +kernel
theorem dL_placeOnBallot_5 : decode cL_placeOnBallot 5 = .ok (.invokevirtual 115, 3) := by decide +kernel
theorem dL_placeOnBallot_8 : decode cL_placeOnBallot 8 = .ok (.i2l, 1) := by decide +kernel
theorem dL_placeOnBallot_9 : decode cL_placeOnBallot 9 = .ok (.lastore, 1) := by decide +kernel
theorem dL_placeOnBallot_10 : decode cL_placeOnBallot 10 = .ok (.goto 15, 3) := by decide +kernel
theorem dL_placeOnBallot_13 : decode cL_placeOnBallot 13 = .ok (.astore 4, 2) := by decide +kernel
theorem dL_placeOnBallot_15 : decode cL_placeOnBallot 15 = .ok (.iconst 1, 1) := by decide +kernel
theorem dL_placeOnBallot_16 : decode cL_placeOnBallot 16 = .ok (.ireturn, 1) := by decide +kernel
theorem dL_placeOnBallot_17 : decode cL_placeOnBallot 17 = .ok (.astore 4, 2) := by decide +kernel
theorem dL_placeOnBallot_19 : decode cL_placeOnBallot 19 = .ok (.iconst 2, 1) := by decide +kernel
theorem dL_placeOnBallot_20 : decode cL_placeOnBallot 20 = .ok (.ireturn, 1) := by decide +kernel
theorem dL_placeOnBallot_21 : decode cL_placeOnBallot 21 = .ok (.astore 4, 2) := by decide +kernel
theorem dL_placeOnBallot_23 : decode cL_placeOnBallot 23 = .ok (.iconst 3, 1) := by decide +kernel
theorem dL_placeOnBallot_24 : decode cL_placeOnBallot 24 = .ok (.ireturn, 1) := by decide +kernel
theorem dL_placeOnBallot_25 : decode cL_placeOnBallot 25 = .ok (.iconst 0, 1) := by decide +kernel
theorem dL_placeOnBallot_26 : decode cL_placeOnBallot 26 = .ok (.ireturn, 1) := by decide +kernel
theorem dL_addVotes_0 : decode cL_addVotes 0 = .ok (.aload_n 3, 1) := by decide +kernel
theorem dL_addVotes_1 : decode cL_addVotes 1 = .ok (.iconst 0, 1) := by decide +kernel
theorem dL_addVotes_2 : decode cL_addVotes 2 = .ok (.aload_n 0, 1) := by decide +kernel
theorem dL_addVotes_3 : decode cL_addVotes 3 = .ok (.iload_n 1, 1) := by decide +kernel
theorem dL_addVotes_4 : decode cL_addVotes 4 = .ok (.iload_n 2, 1) := by decide +kernel
theorem dL_addVotes_5 : decode cL_addVotes 5 = .ok (.invokevirtual 118, 3) := by decide +kernel
theorem dL_addVotes_8 : decode cL_addVotes 8 = .ok (.i2l, 1) := by decide +kernel
theorem dL_addVotes_9 : decode cL_addVotes 9 = .ok (.lastore, 1) := by decide +kernel
theorem dL_addVotes_10 : decode cL_addVotes 10 = .ok (.goto 15, 3) := by decide +kernel
theorem dL_addVotes_13 : decode cL_addVotes 13 = .ok (.astore 4, 2) := by decide +kernel
theorem dL_addVotes_15 : decode cL_addVotes 15 = .ok (.iconst 1, 1) := by decide +kernel
theorem dL_addVotes_16 : decode cL_addVotes 16 = .ok (.ireturn, 1) := by decide +kernel
theorem dL_addVotes_17 : decode cL_addVotes 17 = .ok (.astore 4, 2) := by decide +kernel
theorem dL_addVotes_19 : decode cL_addVotes 19 = .ok (.iconst 2, 1) := by decide +kernel
theorem dL_addVotes_20 : decode cL_addVotes 20 = .ok (.ireturn, 1) := by decide +kernel
theorem dL_addVotes_21 : decode cL_addVotes 21 = .ok (.astore 4, 2) := by decide +kernel
theorem dL_addVotes_23 : decode cL_addVotes 23 = .ok (.iconst 3, 1) := by decide +kernel
theorem dL_addVotes_24 : decode cL_addVotes 24 = .ok (.ireturn, 1) := by decide +kernel
theorem dL_addVotes_25 : decode cL_addVotes 25 = .ok (.iconst 0, 1) := by decide +kernel
theorem dL_addVotes_26 : decode cL_addVotes 26 = .ok (.ireturn, 1) := by decide +kernel
theorem dL_finish_0 : decode cL_finish 0 = .ok (.aload_n 2, 1) := by decide +kernel
theorem dL_finish_1 : decode cL_finish 1 = .ok (.iconst 0, 1) := by decide +kernel
theorem dL_finish_2 : decode cL_finish 2 = .ok (.aload_n 0, 1) := by decide +kernel
theorem dL_finish_3 : decode cL_finish 3 = .ok (.iload_n 1, 1) := by decide +kernel
theorem dL_finish_4 : decode cL_finish 4 = .ok (.invokevirtual 121, 3) := by decide +kernel
theorem dL_finish_7 : decode cL_finish 7 = .ok (.i2l, 1) := by decide +kernel
theorem dL_finish_8 : decode cL_finish 8 = .ok (.lastore, 1) := by decide +kernel
theorem dL_finish_9 : decode cL_finish 9 = .ok (.goto 9, 3) := by decide +kernel
theorem dL_finish_12 : decode cL_finish 12 = .ok (.astore_n 3, 1) := by decide +kernel
theorem dL_finish_13 : decode cL_finish 13 = .ok (.iconst 1, 1) := by decide +kernel
theorem dL_finish_14 : decode cL_finish 14 = .ok (.ireturn, 1) := by decide +kernel
theorem dL_finish_15 : decode cL_finish 15 = .ok (.astore_n 3, 1) := by decide +kernel
theorem dL_finish_16 : decode cL_finish 16 = .ok (.iconst 2, 1) := by decide +kernel
theorem dL_finish_17 : decode cL_finish 17 = .ok (.ireturn, 1) := by decide +kernel
theorem dL_finish_18 : decode cL_finish 18 = .ok (.iconst 0, 1) := by decide +kernel
theorem dL_finish_19 : decode cL_finish 19 = .ok (.ireturn, 1) := by decide +kernel
theorem dL_votes_0 : decode cL_votes 0 = .ok (.aload_n 2, 1) := by decide +kernel
theorem dL_votes_1 : decode cL_votes 1 = .ok (.iconst 0, 1) := by decide +kernel
theorem dL_votes_2 : decode cL_votes 2 = .ok (.aload_n 0, 1) := by decide +kernel
theorem dL_votes_3 : decode cL_votes 3 = .ok (.iload_n 1, 1) := by decide +kernel
theorem dL_votes_4 : decode cL_votes 4 = .ok (.invokevirtual 124, 3) := by decide +kernel
theorem dL_votes_7 : decode cL_votes 7 = .ok (.i2l, 1) := by decide +kernel
theorem dL_votes_8 : decode cL_votes 8 = .ok (.lastore, 1) := by decide +kernel
theorem dL_votes_9 : decode cL_votes 9 = .ok (.goto 6, 3) := by decide +kernel
theorem dL_votes_12 : decode cL_votes 12 = .ok (.astore_n 3, 1) := by decide +kernel
theorem dL_votes_13 : decode cL_votes 13 = .ok (.iconst 1, 1) := by decide +kernel
theorem dL_votes_14 : decode cL_votes 14 = .ok (.ireturn, 1) := by decide +kernel
theorem dL_votes_15 : decode cL_votes 15 = .ok (.iconst 0, 1) := by decide +kernel
theorem dL_votes_16 : decode cL_votes 16 = .ok (.ireturn, 1) := by decide +kernel
theorem dL_share_0 : decode cL_share 0 = .ok (.aload_n 2, 1) := by decide +kernel
theorem dL_share_1 : decode cL_share 1 = .ok (.iconst 0, 1) := by decide +kernel
theorem dL_share_2 : decode cL_share 2 = .ok (.aload_n 0, 1) := by decide +kernel
theorem dL_share_3 : decode cL_share 3 = .ok (.iload_n 1, 1) := by decide +kernel
theorem dL_share_4 : decode cL_share 4 = .ok (.invokevirtual 127, 3) := by decide +kernel
theorem dL_share_7 : decode cL_share 7 = .ok (.dastore, 1) := by decide +kernel
theorem dL_share_8 : decode cL_share 8 = .ok (.goto 9, 3) := by decide +kernel
theorem dL_share_11 : decode cL_share 11 = .ok (.astore_n 3, 1) := by decide +kernel
theorem dL_share_12 : decode cL_share 12 = .ok (.iconst 1, 1) := by decide +kernel
theorem dL_share_13 : decode cL_share 13 = .ok (.ireturn, 1) := by decide +kernel
theorem dL_share_14 : decode cL_share 14 = .ok (.astore_n 3, 1) := by decide +kernel
theorem dL_share_15 : decode cL_share 15 = .ok (.iconst 2, 1) := by decide +kernel
theorem dL_share_16 : decode cL_share 16 = .ok (.ireturn, 1) := by decide +kernel
theorem dL_share_17 : decode cL_share 17 = .ok (.iconst 0, 1) := by decide +kernel
theorem dL_share_18 : decode cL_share 18 = .ok (.ireturn, 1) := by decide +kernel
theorem dL_winner_0 : decode cL_winner 0 = .ok (.aload_n 2, 1) := by decide +kernel
theorem dL_winner_1 : decode cL_winner 1 = .ok (.iconst 0, 1) := by decide +kernel
theorem dL_winner_2 : decode cL_winner 2 = .ok (.aload_n 0, 1) := by decide +kernel
theorem dL_winner_3 : decode cL_winner 3 = .ok (.iload_n 1, 1) := by decide +kernel
theorem dL_winner_4 : decode cL_winner 4 = .ok (.invokevirtual 133, 3) := by decide +kernel
theorem dL_winner_7 : decode cL_winner 7 = .ok (.i2l, 1) := by decide +kernel
theorem dL_winner_8 : decode cL_winner 8 = .ok (.lastore, 1) := by decide +kernel
theorem dL_winner_9 : decode cL_winner 9 = .ok (.goto 12, 3) := by decide +kernel
theorem dL_winner_12 : decode cL_winner 12 = .ok (.astore_n 3, 1) := by decide +kernel
theorem dL_winner_13 : decode cL_winner 13 = .ok (.iconst 1, 1) := by decide +kernel
theorem dL_winner_14 : decode cL_winner 14 = .ok (.ireturn, 1) := by decide +kernel
theorem dL_winner_15 : decode cL_winner 15 = .ok (.astore_n 3, 1) := by decide +kernel
theorem dL_winner_16 : decode cL_winner 16 = .ok (.iconst 2, 1) := by decide +kernel
theorem dL_winner_17 : decode cL_winner 17 = .ok (.ireturn, 1) := by decide +kernel
theorem dL_winner_18 : decode cL_winner 18 = .ok (.astore_n 3, 1) := by decide +kernel
theorem dL_winner_19 : decode cL_winner 19 = .ok (.iconst 3, 1) := by decide +kernel
theorem dL_winner_20 : decode cL_winner 20 = .ok (.ireturn, 1) := by decide +kernel
theorem dL_winner_21 : decode cL_winner 21 = .ok (.iconst 0, 1) := by decide +kernel
theorem dL_winner_22 : decode cL_winner 22 = .ok (.ireturn, 1) := by decide +kernel
theorem dL_deposit_0 : decode cL_deposit 0 = .ok (.aload_n 2, 1) := by decide +kernel
theorem dL_deposit_1 : decode cL_deposit 1 = .ok (.iconst 0, 1) := by decide +kernel
theorem dL_deposit_2 : decode cL_deposit 2 = .ok (.aload_n 0, 1) := by decide +kernel
theorem dL_deposit_3 : decode cL_deposit 3 = .ok (.iload_n 1, 1) := by decide +kernel
theorem dL_deposit_4 : decode cL_deposit 4 = .ok (.invokevirtual 136, 3) := by decide +kernel
theorem dL_deposit_7 : decode cL_deposit 7 = .ok (.i2l, 1) := by decide +kernel
theorem dL_deposit_8 : decode cL_deposit 8 = .ok (.lastore, 1) := by decide +kernel
theorem dL_deposit_9 : decode cL_deposit 9 = .ok (.goto 6, 3) := by decide +kernel
theorem dL_deposit_12 : decode cL_deposit 12 = .ok (.astore_n 3, 1) := by decide +kernel
theorem dL_deposit_13 : decode cL_deposit 13 = .ok (.iconst 1, 1) := by decide +kernel
theorem dL_deposit_14 : decode cL_deposit 14 = .ok (.ireturn, 1) := by decide +kernel
theorem dL_deposit_15 : decode cL_deposit 15 = .ok (.iconst 0, 1) := by decide +kernel
theorem dL_deposit_16 : decode cL_deposit 16 = .ok (.ireturn, 1) := by decide +kernel
theorem dL_paid_0 : decode cL_paid 0 = .ok (.aload_n 2, 1) := by decide +kernel
theorem dL_paid_1 : decode cL_paid 1 = .ok (.iconst 0, 1) := by decide +kernel
theorem dL_paid_2 : decode cL_paid 2 = .ok (.aload_n 0, 1) := by decide +kernel
theorem dL_paid_3 : decode cL_paid 3 = .ok (.iload_n 1, 1) := by decide +kernel
theorem dL_paid_4 : decode cL_paid 4 = .ok (.invokevirtual 139, 3) := by decide +kernel
theorem dL_paid_7 : decode cL_paid 7 = .ok (.i2l, 1) := by decide +kernel
theorem dL_paid_8 : decode cL_paid 8 = .ok (.lastore, 1) := by decide +kernel
theorem dL_paid_9 : decode cL_paid 9 = .ok (.goto 6, 3) := by decide +kernel
theorem dL_paid_12 : decode cL_paid 12 = .ok (.astore_n 3, 1) := by decide +kernel
theorem dL_paid_13 : decode cL_paid 13 = .ok (.iconst 1, 1) := by decide +kernel
theorem dL_paid_14 : decode cL_paid 14 = .ok (.ireturn, 1) := by decide +kernel
theorem dL_paid_15 : decode cL_paid 15 = .ok (.iconst 0, 1) := by decide +kernel
theorem dL_paid_16 : decode cL_paid 16 = .ok (.ireturn, 1) := by decide +kernel
theorem dL_lostShare_0 : decode cL_lostShare 0 = .ok (.aload_n 1, 1) := by decide +kernel
theorem dL_lostShare_1 : decode cL_lostShare 1 = .ok (.iconst 0, 1) := by decide +kernel
theorem dL_lostShare_2 : decode cL_lostShare 2 = .ok (.aload_n 0, 1) := by decide +kernel
theorem dL_lostShare_3 : decode cL_lostShare 3 = .ok (.invokevirtual 142, 3) := by decide +kernel
theorem dL_lostShare_6 : decode cL_lostShare 6 = .ok (.f2d, 1) := by decide +kernel
theorem dL_lostShare_7 : decode cL_lostShare 7 = .ok (.dastore, 1) := by decide +kernel
theorem dL_lostShare_8 : decode cL_lostShare 8 = .ok (.goto 6, 3) := by decide +kernel
theorem dL_lostShare_11 : decode cL_lostShare 11 = .ok (.astore_n 2, 1) := by decide +kernel
theorem dL_lostShare_12 : decode cL_lostShare 12 = .ok (.iconst 1, 1) := by decide +kernel
theorem dL_lostShare_13 : decode cL_lostShare 13 = .ok (.ireturn, 1) := by decide +kernel
theorem dL_lostShare_14 : decode cL_lostShare 14 = .ok (.iconst 0, 1) := by decide +kernel
theorem dL_lostShare_15 : decode cL_lostShare 15 = .ok (.ireturn, 1) := by decide +kernel
