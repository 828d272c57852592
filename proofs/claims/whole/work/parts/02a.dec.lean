theorem dX0_init_0 : decode cX0_init 0 = .ok (.aload_n 0, 1) := by decide +kernel
theorem dX0_init_1 : decode cX0_init 1 = .ok (.invokespecial 3, 3) := by decide +kernel
theorem dX0_init_4 : decode cX0_init 4 = .ok (.aload_n 0, 1) := by decide +kernel
theorem dX0_init_5 : decode cX0_init 5 = .ok (.bipush 12, 2) := by decide +kernel
theorem dX0_init_7 : decode cX0_init 7 = .ok (.newarray .int, 2) := by decide +kernel
theorem dX0_init_9 : decode cX0_init 9 = .ok (.putfield 9, 3) := by decide +kernel
theorem dX0_init_12 : decode cX0_init 12 = .ok (.aload_n 0, 1) := by decide +kernel
theorem dX0_init_13 : decode cX0_init 13 = .ok (.bipush 12, 2) := by decide +kernel
theorem dX0_init_15 : decode cX0_init 15 = .ok (.newarray .int, 2) := by decide +kernel
theorem dX0_init_17 : decode cX0_init 17 = .ok (.putfield 15, 3) := by decide +kernel
theorem dX0_init_20 : decode cX0_init 20 = .ok (.aload_n 0, 1) := by decide +kernel
theorem dX0_init_21 : decode cX0_init 21 = .ok (.bipush 12, 2) := by decide +kernel
theorem dX0_init_23 : decode cX0_init 23 = .ok (.newarray .int, 2) := by decide +kernel
theorem dX0_init_25 : decode cX0_init 25 = .ok (.putfield 18, 3) := by decide +kernel
theorem dX0_init_28 : decode cX0_init 28 = .ok (.return_, 1) := by decide +kernel
theorem dX0_copyFrom_0 : decode cX0_copyFrom 0 = .ok (.aload_n 0, 1) := by decide +kernel
theorem dX0_copyFrom_1 : decode cX0_copyFrom 1 = .ok (.aload_n 1, 1) := by decide +kernel
theorem dX0_copyFrom_2 : decode cX0_copyFrom 2 = .ok (.getfield 21, 3) := by decide +kernel
theorem dX0_copyFrom_5 : decode cX0_copyFrom 5 = .ok (.putfield 21, 3) := by decide +kernel
theorem dX0_copyFrom_8 : decode cX0_copyFrom 8 = .ok (.aload_n 1, 1) := by decide +kernel
theorem dX0_copyFrom_9 : decode cX0_copyFrom 9 = .ok (.getfield 9, 3) := by decide +kernel
theorem dX0_copyFrom_12 : decode cX0_copyFrom 12 = .ok (.iconst 0, 1) := by decide +kernel
theorem dX0_copyFrom_13 : decode cX0_copyFrom 13 = .ok (.aload_n 0, 1) := by decide +kernel
theorem dX0_copyFrom_14 : decode cX0_copyFrom 14 = .ok (.getfield 9, 3) := by decide +kernel
theorem dX0_copyFrom_17 : decode cX0_copyFrom 17 = .ok (.iconst 0, 1) := by decide +kernel
theorem dX0_copyFrom_18 : decode cX0_copyFrom 18 = .ok (.bipush 12, 2) := by decide +kernel
theorem dX0_copyFrom_20 : decode cX0_copyFrom 20 = .ok (.invokestatic 25, 3) := by decide +kernel
theorem dX0_copyFrom_23 : decode cX0_copyFrom 23 = .ok (.aload_n 1, 1) := by decide +kernel
theorem dX0_copyFrom_24 : decode cX0_copyFrom 24 = .ok (.getfield 15, 3) := by decide +kernel
theorem dX0_copyFrom_27 : decode cX0_copyFrom 27 = .ok (.iconst 0, 1) := by decide +kernel
theorem dX0_copyFrom_28 : decode cX0_copyFrom 28 = .ok (.aload_n 0, 1) := by decide +kernel
theorem dX0_copyFrom_29 : decode cX0_copyFrom 29 = .ok (.getfield 15, 3) := by decide +kernel
theorem dX0_copyFrom_32 : decode cX0_copyFrom 32 = .ok (.iconst 0, 1) := by decide +kernel
theorem dX0_copyFrom_33 : decode cX0_copyFrom 33 = .ok (.bipush 12, 2) := by decide +kernel
theorem dX0_copyFrom_35 : decode cX0_copyFrom 35 = .ok (.invokestatic 25, 3) := by decide +kernel
theorem dX0_copyFrom_38 : decode cX0_copyFrom 38 = .ok (.aload_n 1, 1) := by decide +kernel
theorem dX0_copyFrom_39 : decode cX0_copyFrom 39 = .ok (.getfield 18, 3) := by decide +kernel
theorem dX0_copyFrom_42 : decode cX0_copyFrom 42 = .ok (.iconst 0, 1) := by decide +kernel
theorem dX0_copyFrom_43 : decode cX0_copyFrom 43 = .ok (.aload_n 0, 1) := by decide +kernel
theorem dX0_copyFrom_44 : decode cX0_copyFrom 44 = .ok (.getfield 18, 3) := by decide +kernel
theorem dX0_copyFrom_47 : decode cX0_copyFrom 47 = .ok (.iconst 0, 1) := by decide +kernel
theorem dX0_copyFrom_48 : decode cX0_copyFrom 48 = .ok (.bipush 12, 2) := by decide +kernel
theorem dX0_copyFrom_50 : decode cX0_copyFrom 50 = .ok (.invokestatic 25, 3) := by decide +kernel
theorem dX0_copyFrom_53 : decode cX0_copyFrom 53 = .ok (.return_, 1) := by decide +kernel
theorem dX0_tell_0 : decode cX0_tell 0 = .ok (.aload_n 0, 1) := by decide +kernel
theorem dX0_tell_1 : decode cX0_tell 1 = .ok (.getfield 21, 3) := by decide +kernel
theorem dX0_tell_4 : decode cX0_tell 4 = .ok (.bipush 12, 2) := by decide +kernel
theorem dX0_tell_6 : decode cX0_tell 6 = .ok (.if_icmp .ge 43, 3) := by decide +kernel
theorem dX0_tell_9 : decode cX0_tell 9 = .ok (.aload_n 0, 1) := by decide +kernel
theorem dX0_tell_10 : decode cX0_tell 10 = .ok (.getfield 9, 3) := by decide +kernel
theorem dX0_tell_13 : decode cX0_tell 13 = .ok (.aload_n 0, 1) := by decide +kernel
theorem dX0_tell_14 : decode cX0_tell 14 = .ok (.getfield 21, 3) := by decide +kernel
theorem dX0_tell_17 : decode cX0_tell 17 = .ok (.iload_n 1, 1) := by decide +kernel
theorem dX0_tell_18 : decode cX0_tell 18 = .ok (.iastore, 1) := by decide +kernel
theorem dX0_tell_19 : decode cX0_tell 19 = .ok (.aload_n 0, 1) := by decide +kernel
theorem dX0_tell_20 : decode cX0_tell 20 = .ok (.getfield 15, 3) := by decide +kernel
theorem dX0_tell_23 : decode cX0_tell 23 = .ok (.aload_n 0, 1) := by decide +kernel
theorem dX0_tell_24 : decode cX0_tell 24 = .ok (.getfield 21, 3) := by decide +kernel
theorem dX0_tell_27 : decode cX0_tell 27 = .ok (.iload_n 2, 1) := by decide +kernel
theorem dX0_tell_28 : decode cX0_tell 28 = .ok (.iastore, 1) := by decide +kernel
theorem dX0_tell_29 : decode cX0_tell 29 = .ok (.aload_n 0, 1) := by decide +kernel
theorem dX0_tell_30 : decode cX0_tell 30 = .ok (.getfield 18, 3) := by decide +kernel
theorem dX0_tell_33 : decode cX0_tell 33 = .ok (.aload_n 0, 1) := by decide +kernel
theorem dX0_tell_34 : decode cX0_tell 34 = .ok (.getfield 21, 3) := by decide +kernel
theorem dX0_tell_37 : decode cX0_tell 37 = .ok (.iload_n 3, 1) := by decide +kernel
theorem dX0_tell_38 : decode cX0_tell 38 = .ok (.iastore, 1) := by decide +kernel
theorem dX0_tell_39 : decode cX0_tell 39 = .ok (.aload_n 0, 1) := by decide +kernel
theorem dX0_tell_40 : decode cX0_tell 40 = .ok (.dup, 1) := by decide +kernel
theorem dX0_tell_41 : decode cX0_tell 41 = .ok (.getfield 21, 3) := by decide +kernel
theorem dX0_tell_44 : decode cX0_tell 44 = .ok (.iconst 1, 1) := by decide +kernel
theorem dX0_tell_45 : decode cX0_tell 45 = .ok (.iadd, 1) := by decide +kernel
theorem dX0_tell_46 : decode cX0_tell 46 = .ok (.putfield 21, 3) := by decide +kernel
theorem dX0_tell_49 : decode cX0_tell 49 = .ok (.return_, 1) := by decide +kernel
theorem dX0_allTicks_0 : decode cX0_allTicks 0 = .ok (.iconst 0, 1) := by decide +kernel
theorem dX0_allTicks_1 : decode cX0_allTicks 1 = .ok (.istore_n 1, 1) := by decide +kernel
theorem dX0_allTicks_2 : decode cX0_allTicks 2 = .ok (.iconst 0, 1) := by decide +kernel
theorem dX0_allTicks_3 : decode cX0_allTicks 3 = .ok (.istore_n 2, 1) := by decide +kernel
theorem dX0_allTicks_4 : decode cX0_allTicks 4 = .ok (.iload_n 2, 1) := by decide +kernel
theorem dX0_allTicks_5 : decode cX0_allTicks 5 = .ok (.aload_n 0, 1) := by decide +kernel
theorem dX0_allTicks_6 : decode cX0_allTicks 6 = .ok (.getfield 21, 3) := by decide +kernel
theorem dX0_allTicks_9 : decode cX0_allTicks 9 = .ok (.if_icmp .ge 18, 3) := by decide +kernel
theorem dX0_allTicks_12 : decode cX0_allTicks 12 = .ok (.iload_n 1, 1) := by decide +kernel
theorem dX0_allTicks_13 : decode cX0_allTicks 13 = .ok (.aload_n 0, 1) := by decide +kernel
theorem dX0_allTicks_14 : decode cX0_allTicks 14 = .ok (.getfield 18, 3) := by decide +kernel
theorem dX0_allTicks_17 : decode cX0_allTicks 17 = .ok (.iload_n 2, 1) := by decide +kernel
theorem dX0_allTicks_18 : decode cX0_allTicks 18 = .ok (.iaload, 1) := by decide +kernel
theorem dX0_allTicks_19 : decode cX0_allTicks 19 = .ok (.iadd, 1) := by decide +kernel
theorem dX0_allTicks_20 : decode cX0_allTicks 20 = .ok (.istore_n 1, 1) := by decide +kernel
theorem dX0_allTicks_21 : decode cX0_allTicks 21 = .ok (.iinc 2 1, 3) := by decide +kernel
theorem dX0_allTicks_24 : decode cX0_allTicks 24 = .ok (.goto (-20), 3) := by decide +kernel
theorem dX0_allTicks_27 : decode cX0_allTicks 27 = .ok (.iload_n 1, 1) := by decide +kernel
theorem dX0_allTicks_28 : decode cX0_allTicks 28 = .ok (.ireturn, 1) := by decide +kernel
theorem dX0_byTick_0 : decode cX0_byTick 0 = .ok (.aload_n 0, 1) := by decide +kernel
theorem dX0_byTick_1 : decode cX0_byTick 1 = .ok (.getfield 15, 3) := by decide +kernel
theorem dX0_byTick_4 : decode cX0_byTick 4 = .ok (.iload_n 1, 1) := by decide +kernel
theorem dX0_byTick_5 : decode cX0_byTick 5 = .ok (.iaload, 1) := by decide +kernel
theorem dX0_byTick_6 : decode cX0_byTick 6 = .ok (.iload_n 2, 1) := by decide +kernel
theorem dX0_byTick_7 : decode cX0_byTick 7 = .ok (.iconst 1, 1) := by decide +kernel
theorem dX0_byTick_8 : decode cX0_byTick 8 = .ok (.invokestatic 31, 3) := by decide +kernel
theorem dX0_byTick_11 : decode cX0_byTick 11 = .ok (.idiv, 1) := by decide +kernel
theorem dX0_byTick_12 : decode cX0_byTick 12 = .ok (.ireturn, 1) := by decide +kernel
theorem dX0_bendBehindStep_0 : decode cX0_bendBehindStep 0 = .ok (.iload_n 1, 1) := by decide +kernel
theorem dX0_bendBehindStep_1 : decode cX0_bendBehindStep 1 = .ok (.bipush 9, 2) := by decide +kernel
theorem dX0_bendBehindStep_3 : decode cX0_bendBehindStep 3 = .ok (.if_icmp .ne 7, 3) := by decide +kernel
theorem dX0_bendBehindStep_6 : decode cX0_bendBehindStep 6 = .ok (.iload_n 0, 1) := by decide +kernel
theorem dX0_bendBehindStep_7 : decode cX0_bendBehindStep 7 = .ok (.iload_n 2, 1) := by decide +kernel
theorem dX0_bendBehindStep_8 : decode cX0_bendBehindStep 8 = .ok (.iadd, 1) := by decide +kernel
theorem dX0_bendBehindStep_9 : decode cX0_bendBehindStep 9 = .ok (.ireturn, 1) := by decide +kernel
theorem dX0_bendBehindStep_10 : decode cX0_bendBehindStep 10 = .ok (.iload_n 1, 1) := by decide +kernel
theorem dX0_bendBehindStep_11 : decode cX0_bendBehindStep 11 = .ok (.bipush 10, 2) := by decide +kernel
theorem dX0_bendBehindStep_13 : decode cX0_bendBehindStep 13 = .ok (.if_icmp .ne 13, 3) := by decide +kernel
theorem dX0_bendBehindStep_16 : decode cX0_bendBehindStep 16 = .ok (.iconst 0, 1) := by decide +kernel
theorem dX0_bendBehindStep_17 : decode cX0_bendBehindStep 17 = .ok (.iload_n 0, 1) := by decide +kernel
theorem dX0_bendBehindStep_18 : decode cX0_bendBehindStep 18 = .ok (.iload_n 2, 1) := by decide +kernel
theorem dX0_bendBehindStep_19 : decode cX0_bendBehindStep 19 = .ok (.isub, 1) := by decide +kernel
theorem dX0_bendBehindStep_20 : decode cX0_bendBehindStep 20 = .ok (.invokestatic 31, 3) := by decide +kernel
theorem dX0_bendBehindStep_23 : decode cX0_bendBehindStep 23 = .ok (.goto 4, 3) := by decide +kernel
theorem dX0_bendBehindStep_26 : decode cX0_bendBehindStep 26 = .ok (.iload_n 0, 1) := by decide +kernel
theorem dX0_bendBehindStep_27 : decode cX0_bendBehindStep 27 = .ok (.ireturn, 1) := by decide +kernel
theorem dX0_bendBehind_0 : decode cX0_bendBehind 0 = .ok (.iconst 0, 1) := by decide +kernel
theorem dX0_bendBehind_1 : decode cX0_bendBehind 1 = .ok (.istore_n 3, 1) := by decide +kernel
theorem dX0_bendBehind_2 : decode cX0_bendBehind 2 = .ok (.iload_n 1, 1) := by decide +kernel
theorem dX0_bendBehind_3 : decode cX0_bendBehind 3 = .ok (.istore 4, 2) := by decide +kernel
theorem dX0_bendBehind_5 : decode cX0_bendBehind 5 = .ok (.iconst 0, 1) := by decide +kernel
theorem dX0_bendBehind_6 : decode cX0_bendBehind 6 = .ok (.istore 5, 2) := by decide +kernel
theorem dX0_bendBehind_8 : decode cX0_bendBehind 8 = .ok (.iload 5, 2) := by decide +kernel
theorem dX0_bendBehind_10 : decode cX0_bendBehind 10 = .ok (.aload_n 0, 1) := by decide +kernel
theorem dX0_bendBehind_11 : decode cX0_bendBehind 11 = .ok (.getfield 21, 3) := by decide +kernel
theorem dX0_bendBehind_14 : decode cX0_bendBehind 14 = .ok (.if_icmp .ge 59, 3) := by decide +kernel
theorem dX0_bendBehind_17 : decode cX0_bendBehind 17 = .ok (.iload 4, 2) := by decide +kernel
theorem dX0_bendBehind_19 : decode cX0_bendBehind 19 = .ok (.ifCond .le 54, 3) := by decide +kernel
theorem dX0_bendBehind_22 : decode cX0_bendBehind 22 = .ok (.iload 4, 2) := by decide +kernel
theorem dX0_bendBehind_24 : decode cX0_bendBehind 24 = .ok (.aload_n 0, 1) := by decide +kernel
theorem dX0_bendBehind_25 : decode cX0_bendBehind 25 = .ok (.getfield 18, 3) := by decide +kernel
theorem dX0_bendBehind_28 : decode cX0_bendBehind 28 = .ok (.iload 5, 2) := by decide +kernel
theorem dX0_bendBehind_30 : decode cX0_bendBehind 30 = .ok (.iaload, 1) := by decide +kernel
theorem dX0_bendBehind_31 : decode cX0_bendBehind 31 = .ok (.iload_n 2, 1) := by decide +kernel
theorem dX0_bendBehind_32 : decode cX0_bendBehind 32 = .ok (.imul, 1) := by decide +kernel
theorem dX0_bendBehind_33 : decode cX0_bendBehind 33 = .ok (.invokestatic 37, 3) := by decide +kernel
theorem dX0_bendBehind_36 : decode cX0_bendBehind 36 = .ok (.istore 6, 2) := by decide +kernel
theorem dX0_bendBehind_38 : decode cX0_bendBehind 38 = .ok (.iload_n 3, 1) := by decide +kernel
theorem dX0_bendBehind_39 : decode cX0_bendBehind 39 = .ok (.aload_n 0, 1) := by decide +kernel
theorem dX0_bendBehind_40 : decode cX0_bendBehind 40 = .ok (.getfield 9, 3) := by decide +kernel
theorem dX0_bendBehind_43 : decode cX0_bendBehind 43 = .ok (.iload 5, 2) := by decide +kernel
theorem dX0_bendBehind_45 : decode cX0_bendBehind 45 = .ok (.iaload, 1) := by decide +kernel
theorem dX0_bendBehind_46 : decode cX0_bendBehind 46 = .ok (.aload_n 0, 1) := by decide +kernel
theorem dX0_bendBehind_47 : decode cX0_bendBehind 47 = .ok (.iload 5, 2) := by decide +kernel
theorem dX0_bendBehind_49 : decode cX0_bendBehind 49 = .ok (.iload_n 2, 1) := by decide +kernel
theorem dX0_bendBehind_50 : decode cX0_bendBehind 50 = .ok (.invokevirtual 40, 3) := by decide +kernel
theorem dX0_bendBehind_53 : decode cX0_bendBehind 53 = .ok (.iload 6, 2) := by decide +kernel
theorem dX0_bendBehind_55 : decode cX0_bendBehind 55 = .ok (.imul, 1) := by decide +kernel
theorem dX0_bendBehind_56 : decode cX0_bendBehind 56 = .ok (.invokestatic 43, 3) := by decide +kernel
theorem dX0_bendBehind_59 : decode cX0_bendBehind 59 = .ok (.istore_n 3, 1) := by decide +kernel
theorem dX0_bendBehind_60 : decode cX0_bendBehind 60 = .ok (.iload 4, 2) := by decide +kernel
theorem dX0_bendBehind_62 : decode cX0_bendBehind 62 = .ok (.iload 6, 2) := by decide +kernel
theorem dX0_bendBehind_64 : decode cX0_bendBehind 64 = .ok (.isub, 1) := by decide +kernel
theorem dX0_bendBehind_65 : decode cX0_bendBehind 65 = .ok (.istore 4, 2) := by decide +kernel
theorem dX0_bendBehind_67 : decode cX0_bendBehind 67 = .ok (.iinc 5 1, 3) := by decide +kernel
theorem dX0_bendBehind_70 : decode cX0_bendBehind 70 = .ok (.goto (-62), 3) := by decide +kernel
theorem dX0_bendBehind_73 : decode cX0_bendBehind 73 = .ok (.iload_n 3, 1) := by decide +kernel
theorem dX0_bendBehind_74 : decode cX0_bendBehind 74 = .ok (.ireturn, 1) := by decide +kernel
theorem dX0_turnBehind_0 : decode cX0_turnBehind 0 = .ok (.iconst 0, 1) := by decide +kernel
theorem dX0_turnBehind_1 : decode cX0_turnBehind 1 = .ok (.istore_n 3, 1) := by decide +kernel
theorem dX0_turnBehind_2 : decode cX0_turnBehind 2 = .ok (.iload_n 1, 1) := by decide +kernel
theorem dX0_turnBehind_3 : decode cX0_turnBehind 3 = .ok (.istore 4, 2) := by decide +kernel
theorem dX0_turnBehind_5 : decode cX0_turnBehind 5 = .ok (.iconst 0, 1) := by decide +kernel
theorem dX0_turnBehind_6 : decode cX0_turnBehind 6 = .ok (.istore 5, 2) := by decide +kernel
theorem dX0_turnBehind_8 : decode cX0_turnBehind 8 = .ok (.iload 5, 2) := by decide +kernel
theorem dX0_turnBehind_10 : decode cX0_turnBehind 10 = .ok (.aload_n 0, 1) := by decide +kernel
theorem dX0_turnBehind_11 : decode cX0_turnBehind 11 = .ok (.getfield 21, 3) := by decide +kernel
theorem dX0_turnBehind_14 : decode cX0_turnBehind 14 = .ok (.if_icmp .ge 62, 3) := by decide +kernel
theorem dX0_turnBehind_17 : decode cX0_turnBehind 17 = .ok (.iload 4, 2) := by decide +kernel
theorem dX0_turnBehind_19 : decode cX0_turnBehind 19 = .ok (.ifCond .le 57, 3) := by decide +kernel
theorem dX0_turnBehind_22 : decode cX0_turnBehind 22 = .ok (.iload 4, 2) := by decide +kernel
theorem dX0_turnBehind_24 : decode cX0_turnBehind 24 = .ok (.aload_n 0, 1) := by decide +kernel
theorem dX0_turnBehind_25 : decode cX0_turnBehind 25 = .ok (.getfield 18, 3) := by decide +kernel
theorem dX0_turnBehind_28 : decode cX0_turnBehind 28 = .ok (.iload 5, 2) := by decide +kernel
theorem dX0_turnBehind_30 : decode cX0_turnBehind 30 = .ok (.iaload, 1) := by decide +kernel
theorem dX0_turnBehind_31 : decode cX0_turnBehind 31 = .ok (.iload_n 2, 1) := by decide +kernel
theorem dX0_turnBehind_32 : decode cX0_turnBehind 32 = .ok (.imul, 1) := by decide +kernel
theorem dX0_turnBehind_33 : decode cX0_turnBehind 33 = .ok (.invokestatic 37, 3) := by decide +kernel
theorem dX0_turnBehind_36 : decode cX0_turnBehind 36 = .ok (.istore 6, 2) := by decide +kernel
theorem dX0_turnBehind_38 : decode cX0_turnBehind 38 = .ok (.aload_n 0, 1) := by decide +kernel
theorem dX0_turnBehind_39 : decode cX0_turnBehind 39 = .ok (.getfield 9, 3) := by decide +kernel
theorem dX0_turnBehind_42 : decode cX0_turnBehind 42 = .ok (.iload 5, 2) := by decide +kernel
theorem dX0_turnBehind_44 : decode cX0_turnBehind 44 = .ok (.iaload, 1) := by decide +kernel
theorem dX0_turnBehind_45 : decode cX0_turnBehind 45 = .ok (.bipush 11, 2) := by decide +kernel
theorem dX0_turnBehind_47 : decode cX0_turnBehind 47 = .ok (.if_icmp .ne 16, 3) := by decide +kernel
theorem dX0_turnBehind_50 : decode cX0_turnBehind 50 = .ok (.iload_n 3, 1) := by decide +kernel
theorem dX0_turnBehind_51 : decode cX0_turnBehind 51 = .ok (.aload_n 0, 1) := by decide +kernel
theorem dX0_turnBehind_52 : decode cX0_turnBehind 52 = .ok (.iload 5, 2) := by decide +kernel
theorem dX0_turnBehind_54 : decode cX0_turnBehind 54 = .ok (.iload_n 2, 1) := by decide +kernel
theorem dX0_turnBehind_55 : decode cX0_turnBehind 55 = .ok (.invokevirtual 40, 3) := by decide +kernel
theorem dX0_turnBehind_58 : decode cX0_turnBehind 58 = .ok (.iload 6, 2) := by decide +kernel
theorem dX0_turnBehind_60 : decode cX0_turnBehind 60 = .ok (.imul, 1) := by decide +kernel
theorem dX0_turnBehind_61 : decode cX0_turnBehind 61 = .ok (.iadd, 1) := by decide +kernel
theorem dX0_turnBehind_62 : decode cX0_turnBehind 62 = .ok (.istore_n 3, 1) := by decide +kernel
theorem dX0_turnBehind_63 : decode cX0_turnBehind 63 = .ok (.iload 4, 2) := by decide +kernel
theorem dX0_turnBehind_65 : decode cX0_turnBehind 65 = .ok (.iload 6, 2) := by decide +kernel
theorem dX0_turnBehind_67 : decode cX0_turnBehind 67 = .ok (.isub, 1) := by decide +kernel
theorem dX0_turnBehind_68 : decode cX0_turnBehind 68 = .ok (.istore 4, 2) := by decide +kernel
theorem dX0_turnBehind_70 : decode cX0_turnBehind 70 = .ok (.iinc 5 1, 3) := by decide +kernel
theorem dX0_turnBehind_73 : decode cX0_turnBehind 73 = .ok (.goto (-65), 3) := by decide +kernel
theorem dX0_turnBehind_76 : decode cX0_turnBehind 76 = .ok (.iload_n 3, 1) := by decide +kernel
theorem dX0_turnBehind_77 : decode cX0_turnBehind 77 = .ok (.ireturn, 1) := by decide +kernel
theorem dX0_tickOfBend_0 : decode cX0_tickOfBend 0 = .ok (.iconst 0, 1) := by decide +kernel
theorem dX0_tickOfBend_1 : decode cX0_tickOfBend 1 = .ok (.istore_n 3, 1) := by decide +kernel
theorem dX0_tickOfBend_2 : decode cX0_tickOfBend 2 = .ok (.iconst 0, 1) := by decide +kernel
theorem dX0_tickOfBend_3 : decode cX0_tickOfBend 3 = .ok (.istore 4, 2) := by decide +kernel
theorem dX0_tickOfBend_5 : decode cX0_tickOfBend 5 = .ok (.iconst 0, 1) := by decide +kernel
theorem dX0_tickOfBend_6 : decode cX0_tickOfBend 6 = .ok (.istore 5, 2) := by decide +kernel
theorem dX0_tickOfBend_8 : decode cX0_tickOfBend 8 = .ok (.iload 5, 2) := by decide +kernel
theorem dX0_tickOfBend_10 : decode cX0_tickOfBend 10 = .ok (.aload_n 0, 1) := by decide +kernel
theorem dX0_tickOfBend_11 : decode cX0_tickOfBend 11 = .ok (.getfield 21, 3) := by decide +kernel
theorem dX0_tickOfBend_14 : decode cX0_tickOfBend 14 = .ok (.if_icmp .ge 114, 3) := by decide +kernel
theorem dX0_tickOfBend_17 : decode cX0_tickOfBend 17 = .ok (.aload_n 0, 1) := by decide +kernel
theorem dX0_tickOfBend_18 : decode cX0_tickOfBend 18 = .ok (.getfield 18, 3) := by decide +kernel
theorem dX0_tickOfBend_21 : decode cX0_tickOfBend 21 = .ok (.iload 5, 2) := by decide +kernel
theorem dX0_tickOfBend_23 : decode cX0_tickOfBend 23 = .ok (.iaload, 1) := by decide +kernel
theorem dX0_tickOfBend_24 : decode cX0_tickOfBend 24 = .ok (.iload_n 2, 1) := by decide +kernel
theorem dX0_tickOfBend_25 : decode cX0_tickOfBend 25 = .ok (.imul, 1) := by decide +kernel
theorem dX0_tickOfBend_26 : decode cX0_tickOfBend 26 = .ok (.istore 6, 2) := by decide +kernel
theorem dX0_tickOfBend_28 : decode cX0_tickOfBend 28 = .ok (.aload_n 0, 1) := by decide +kernel
theorem dX0_tickOfBend_29 : decode cX0_tickOfBend 29 = .ok (.iload 5, 2) := by decide +kernel
theorem dX0_tickOfBend_31 : decode cX0_tickOfBend 31 = .ok (.iload_n 2, 1) := by decide +kernel
theorem dX0_tickOfBend_32 : decode cX0_tickOfBend 32 = .ok (.invokevirtual 40, 3) := by decide +kernel
theorem dX0_tickOfBend_35 : decode cX0_tickOfBend 35 = .ok (.istore 7, 2) := by decide +kernel
theorem dX0_tickOfBend_37 : decode cX0_tickOfBend 37 = .ok (.aload_n 0, 1) := by decide +kernel
theorem dX0_tickOfBend_38 : decode cX0_tickOfBend 38 = .ok (.getfield 9, 3) := by decide +kernel
theorem dX0_tickOfBend_41 : decode cX0_tickOfBend 41 = .ok (.iload 5, 2) := by decide +kernel
theorem dX0_tickOfBend_43 : decode cX0_tickOfBend 43 = .ok (.iaload, 1) := by decide +kernel
theorem dX0_tickOfBend_44 : decode cX0_tickOfBend 44 = .ok (.bipush 9, 2) := by decide +kernel
theorem dX0_tickOfBend_46 : decode cX0_tickOfBend 46 = .ok (.if_icmp .ne 52, 3) := by decide +kernel
theorem dX0_tickOfBend_49 : decode cX0_tickOfBend 49 = .ok (.iload 7, 2) := by decide +kernel
theorem dX0_tickOfBend_51 : decode cX0_tickOfBend 51 = .ok (.ifCond .le 47, 3) := by decide +kernel
theorem dX0_tickOfBend_54 : decode cX0_tickOfBend 54 = .ok (.iload_n 3, 1) := by decide +kernel
theorem dX0_tickOfBend_55 : decode cX0_tickOfBend 55 = .ok (.iload 7, 2) := by decide +kernel
theorem dX0_tickOfBend_57 : decode cX0_tickOfBend 57 = .ok (.iload 6, 2) := by decide +kernel
theorem dX0_tickOfBend_59 : decode cX0_tickOfBend 59 = .ok (.imul, 1) := by decide +kernel
theorem dX0_tickOfBend_60 : decode cX0_tickOfBend 60 = .ok (.iadd, 1) := by decide +kernel
theorem dX0_tickOfBend_61 : decode cX0_tickOfBend 61 = .ok (.iload_n 1, 1) := by decide +kernel
theorem dX0_tickOfBend_62 : decode cX0_tickOfBend 62 = .ok (.if_icmp .lt 36, 3) := by decide +kernel
theorem dX0_tickOfBend_65 : decode cX0_tickOfBend 65 = .ok (.iload 4, 2) := by decide +kernel
theorem dX0_tickOfBend_67 : decode cX0_tickOfBend 67 = .ok (.iload_n 1, 1) := by decide +kernel
theorem dX0_tickOfBend_68 : decode cX0_tickOfBend 68 = .ok (.iload_n 3, 1) := by decide +kernel
theorem dX0_tickOfBend_69 : decode cX0_tickOfBend 69 = .ok (.isub, 1) := by decide +kernel
theorem dX0_tickOfBend_70 : decode cX0_tickOfBend 70 = .ok (.iload 7, 2) := by decide +kernel
theorem dX0_tickOfBend_72 : decode cX0_tickOfBend 72 = .ok (.iadd, 1) := by decide +kernel
theorem dX0_tickOfBend_73 : decode cX0_tickOfBend 73 = .ok (.iconst 1, 1) := by decide +kernel
theorem dX0_tickOfBend_74 : decode cX0_tickOfBend 74 = .ok (.isub, 1) := by decide +kernel
theorem dX0_tickOfBend_75 : decode cX0_tickOfBend 75 = .ok (.iload 7, 2) := by decide +kernel
theorem dX0_tickOfBend_77 : decode cX0_tickOfBend 77 = .ok (.idiv, 1) := by decide +kernel
theorem dX0_tickOfBend_78 : decode cX0_tickOfBend 78 = .ok (.iadd, 1) := by decide +kernel
theorem dX0_tickOfBend_79 : decode cX0_tickOfBend 79 = .ok (.iconst 1, 1) := by decide +kernel
theorem dX0_tickOfBend_80 : decode cX0_tickOfBend 80 = .ok (.isub, 1) := by decide +kernel
theorem dX0_tickOfBend_81 : decode cX0_tickOfBend 81 = .ok (.istore 8, 2) := by decide +kernel
theorem dX0_tickOfBend_83 : decode cX0_tickOfBend 83 = .ok (.iload 8, 2) := by decide +kernel
theorem dX0_tickOfBend_85 : decode cX0_tickOfBend 85 = .ok (.sipush 4000, 3) := by decide +kernel
theorem dX0_tickOfBend_88 : decode cX0_tickOfBend 88 = .ok (.if_icmp .ge 8, 3) := by decide +kernel
theorem dX0_tickOfBend_91 : decode cX0_tickOfBend 91 = .ok (.iload 8, 2) := by decide +kernel
theorem dX0_tickOfBend_93 : decode cX0_tickOfBend 93 = .ok (.goto 4, 3) := by decide +kernel
theorem dX0_tickOfBend_96 : decode cX0_tickOfBend 96 = .ok (.iconst (-1), 1) := by decide +kernel
theorem dX0_tickOfBend_97 : decode cX0_tickOfBend 97 = .ok (.ireturn, 1) := by decide +kernel
theorem dX0_tickOfBend_98 : decode cX0_tickOfBend 98 = .ok (.iload_n 3, 1) := by decide +kernel
theorem dX0_tickOfBend_99 : decode cX0_tickOfBend 99 = .ok (.aload_n 0, 1) := by decide +kernel
theorem dX0_tickOfBend_100 : decode cX0_tickOfBend 100 = .ok (.getfield 9, 3) := by decide +kernel
theorem dX0_tickOfBend_103 : decode cX0_tickOfBend 103 = .ok (.iload 5, 2) := by decide +kernel
theorem dX0_tickOfBend_105 : decode cX0_tickOfBend 105 = .ok (.iaload, 1) := by decide +kernel
theorem dX0_tickOfBend_106 : decode cX0_tickOfBend 106 = .ok (.iload 7, 2) := by decide +kernel
theorem dX0_tickOfBend_108 : decode cX0_tickOfBend 108 = .ok (.iload 6, 2) := by decide +kernel
theorem dX0_tickOfBend_110 : decode cX0_tickOfBend 110 = .ok (.imul, 1) := by decide +kernel
theorem dX0_tickOfBend_111 : decode cX0_tickOfBend 111 = .ok (.invokestatic 43, 3) := by decide +kernel
theorem dX0_tickOfBend_114 : decode cX0_tickOfBend 114 = .ok (.istore_n 3, 1) := by decide +kernel
theorem dX0_tickOfBend_115 : decode cX0_tickOfBend 115 = .ok (.iload 4, 2) := by decide +kernel
theorem dX0_tickOfBend_117 : decode cX0_tickOfBend 117 = .ok (.iload 6, 2) := by decide +kernel
theorem dX0_tickOfBend_119 : decode cX0_tickOfBend 119 = .ok (.iadd, 1) := by decide +kernel
theorem dX0_tickOfBend_120 : decode cX0_tickOfBend 120 = .ok (.istore 4, 2) := by decide +kernel
theorem dX0_tickOfBend_122 : decode cX0_tickOfBend 122 = .ok (.iinc 5 1, 3) := by decide +kernel
theorem dX0_tickOfBend_125 : decode cX0_tickOfBend 125 = .ok (.goto (-117), 3) := by decide +kernel
theorem dX0_tickOfBend_128 : decode cX0_tickOfBend 128 = .ok (.iconst (-1), 1) := by decide +kernel
theorem dX0_tickOfBend_129 : decode cX0_tickOfBend 129 = .ok (.ireturn, 1) := by decide +kernel
theorem dX1_init_0 : decode cX1_init 0 = .ok (.aload_n 0, 1) := by decide +kernel
theorem dX1_init_1 : decode cX1_init 1 = .ok (.invokespecial 3, 3) := by decide +kernel
theorem dX1_init_4 : decode cX1_init 4 = .ok (.aload_n 0, 1) := by decide +kernel
theorem dX1_init_5 : decode cX1_init 5 = .ok (.new 9, 3) := by decide +kernel
theorem dX1_init_8 : decode cX1_init 8 = .ok (.dup, 1) := by decide +kernel
theorem dX1_init_9 : decode cX1_init 9 = .ok (.invokespecial 11, 3) := by decide +kernel
theorem dX1_init_12 : decode cX1_init 12 = .ok (.putfield 12, 3) := by decide +kernel
theorem dX1_init_15 : decode cX1_init 15 = .ok (.aload_n 0, 1) := by decide +kernel
theorem dX1_init_16 : decode cX1_init 16 = .ok (.new 18, 3) := by decide +kernel
theorem dX1_init_19 : decode cX1_init 19 = .ok (.dup, 1) := by decide +kernel
theorem dX1_init_20 : decode cX1_init 20 = .ok (.invokespecial 20, 3) := by decide +kernel
theorem dX1_init_23 : decode cX1_init 23 = .ok (.putfield 21, 3) := by decide +kernel
theorem dX1_init_26 : decode cX1_init 26 = .ok (.aload_n 0, 1) := by decide +kernel
theorem dX1_init_27 : decode cX1_init 27 = .ok (.new 25, 3) := by decide +kernel
theorem dX1_init_30 : decode cX1_init 30 = .ok (.dup, 1) := by decide +kernel
theorem dX1_init_31 : decode cX1_init 31 = .ok (.invokespecial 27, 3) := by decide +kernel
theorem dX1_init_34 : decode cX1_init 34 = .ok (.putfield 28, 3) := by decide +kernel
theorem dX1_init_37 : decode cX1_init 37 = .ok (.aload_n 0, 1) := by decide +kernel
theorem dX1_init_38 : decode cX1_init 38 = .ok (.bipush 60, 2) := by decide +kernel
theorem dX1_init_40 : decode cX1_init 40 = .ok (.newarray .int, 2) := by decide +kernel
theorem dX1_init_42 : decode cX1_init 42 = .ok (.putfield 32, 3) := by decide +kernel
theorem dX1_init_45 : decode cX1_init 45 = .ok (.aload_n 0, 1) := by decide +kernel
theorem dX1_init_46 : decode cX1_init 46 = .ok (.bipush 60, 2) := by decide +kernel
theorem dX1_init_48 : decode cX1_init 48 = .ok (.newarray .int, 2) := by decide +kernel
theorem dX1_init_50 : decode cX1_init 50 = .ok (.putfield 36, 3) := by decide +kernel
theorem dX1_init_53 : decode cX1_init 53 = .ok (.aload_n 0, 1) := by decide +kernel
theorem dX1_init_54 : decode cX1_init 54 = .ok (.bipush 60, 2) := by decide +kernel
theorem dX1_init_56 : decode cX1_init 56 = .ok (.newarray .int, 2) := by decide +kernel
theorem dX1_init_58 : decode cX1_init 58 = .ok (.putfield 39, 3) := by decide +kernel
theorem dX1_init_61 : decode cX1_init 61 = .ok (.aload_n 0, 1) := by decide +kernel
theorem dX1_init_62 : decode cX1_init 62 = .ok (.bipush 60, 2) := by decide +kernel
theorem dX1_init_64 : decode cX1_init 64 = .ok (.newarray .int, 2) := by decide +kernel
theorem dX1_init_66 : decode cX1_init 66 = .ok (.putfield 42, 3) := by decide +kernel
theorem dX1_init_69 : decode cX1_init 69 = .ok (.aload_n 0, 1) := by decide +kernel
theorem dX1_init_70 : decode cX1_init 70 = .ok (.sipush 200, 3) := by decide +kernel
theorem dX1_init_73 : decode cX1_init 73 = .ok (.newarray .int, 2) := by decide +kernel
theorem dX1_init_75 : decode cX1_init 75 = .ok (.putfield 45, 3) := by decide +kernel
theorem dX1_init_78 : decode cX1_init 78 = .ok (.aload_n 0, 1) := by decide +kernel
theorem dX1_init_79 : decode cX1_init 79 = .ok (.sipush 200, 3) := by decide +kernel
theorem dX1_init_82 : decode cX1_init 82 = .ok (.newarray .int, 2) := by decide +kernel
theorem dX1_init_84 : decode cX1_init 84 = .ok (.putfield 48, 3) := by decide +kernel
theorem dX1_init_87 : decode cX1_init 87 = .ok (.aload_n 0, 1) := by decide +kernel
theorem dX1_init_88 : decode cX1_init 88 = .ok (.sipush 200, 3) := by decide +kernel
theorem dX1_init_91 : decode cX1_init 91 = .ok (.newarray .int, 2) := by decide +kernel
theorem dX1_init_93 : decode cX1_init 93 = .ok (.putfield 51, 3) := by decide +kernel
theorem dX1_init_96 : decode cX1_init 96 = .ok (.return_, 1) := by decide +kernel
theorem dX1_breakRod_0 : decode cX1_breakRod 0 = .ok (.aload_n 0, 1) := by decide +kernel
theorem dX1_breakRod_1 : decode cX1_breakRod 1 = .ok (.aload_n 1, 1) := by decide +kernel
theorem dX1_breakRod_2 : decode cX1_breakRod 2 = .ok (.aload_n 3, 1) := by decide +kernel
theorem dX1_breakRod_3 : decode cX1_breakRod 3 = .ok (.iload 4, 2) := by decide +kernel
theorem dX1_breakRod_5 : decode cX1_breakRod 5 = .ok (.invokevirtual 54, 3) := by decide +kernel
theorem dX1_breakRod_8 : decode cX1_breakRod 8 = .ok (.aload_n 0, 1) := by decide +kernel
theorem dX1_breakRod_9 : decode cX1_breakRod 9 = .ok (.aload_n 2, 1) := by decide +kernel
theorem dX1_breakRod_10 : decode cX1_breakRod 10 = .ok (.iconst 1, 1) := by decide +kernel
theorem dX1_breakRod_11 : decode cX1_breakRod 11 = .ok (.invokevirtual 58, 3) := by decide +kernel
theorem dX1_breakRod_14 : decode cX1_breakRod 14 = .ok (.aload_n 0, 1) := by decide +kernel
theorem dX1_breakRod_15 : decode cX1_breakRod 15 = .ok (.iconst (-1), 1) := by decide +kernel
theorem dX1_breakRod_16 : decode cX1_breakRod 16 = .ok (.iconst 0, 1) := by decide +kernel
theorem dX1_breakRod_17 : decode cX1_breakRod 17 = .ok (.invokevirtual 62, 3) := by decide +kernel
theorem dX1_breakRod_20 : decode cX1_breakRod 20 = .ok (.ireturn, 1) := by decide +kernel
theorem dX1_take_0 : decode cX1_take 0 = .ok (.aload_n 0, 1) := by decide +kernel
theorem dX1_take_1 : decode cX1_take 1 = .ok (.aload_n 1, 1) := by decide +kernel
theorem dX1_take_2 : decode cX1_take 2 = .ok (.putfield 21, 3) := by decide +kernel
theorem dX1_take_5 : decode cX1_take 5 = .ok (.aload_n 0, 1) := by decide +kernel
theorem dX1_take_6 : decode cX1_take 6 = .ok (.aload_n 2, 1) := by decide +kernel
theorem dX1_take_7 : decode cX1_take 7 = .ok (.putfield 28, 3) := by decide +kernel
theorem dX1_take_10 : decode cX1_take 10 = .ok (.aload_n 0, 1) := by decide +kernel
theorem dX1_take_11 : decode cX1_take 11 = .ok (.getfield 12, 3) := by decide +kernel
theorem dX1_take_14 : decode cX1_take 14 = .ok (.aload_n 2, 1) := by decide +kernel
theorem dX1_take_15 : decode cX1_take 15 = .ok (.getfield 66, 3) := by decide +kernel
theorem dX1_take_18 : decode cX1_take 18 = .ok (.iconst 2, 1) := by decide +kernel
theorem dX1_take_19 : decode cX1_take 19 = .ok (.iaload, 1) := by decide +kernel
theorem dX1_take_20 : decode cX1_take 20 = .ok (.aload_n 2, 1) := by decide +kernel
theorem dX1_take_21 : decode cX1_take 21 = .ok (.getfield 66, 3) := by decide +kernel
theorem dX1_take_24 : decode cX1_take 24 = .ok (.iconst 3, 1) := by decide +kernel
theorem dX1_take_25 : decode cX1_take 25 = .ok (.iaload, 1) := by decide +kernel
theorem dX1_take_26 : decode cX1_take 26 = .ok (.isub, 1) := by decide +kernel
theorem dX1_take_27 : decode cX1_take 27 = .ok (.putfield 69, 3) := by decide +kernel
theorem dX1_take_30 : decode cX1_take 30 = .ok (.aload_n 1, 1) := by decide +kernel
theorem dX1_take_31 : decode cX1_take 31 = .ok (.iload_n 3, 1) := by decide +kernel
theorem dX1_take_32 : decode cX1_take 32 = .ok (.aload_n 0, 1) := by decide +kernel
theorem dX1_take_33 : decode cX1_take 33 = .ok (.getfield 32, 3) := by decide +kernel
theorem dX1_take_36 : decode cX1_take 36 = .ok (.invokevirtual 73, 3) := by decide +kernel
theorem dX1_take_39 : decode cX1_take 39 = .ok (.aload_n 0, 1) := by decide +kernel
theorem dX1_take_40 : decode cX1_take 40 = .ok (.aload_n 0, 1) := by decide +kernel
theorem dX1_take_41 : decode cX1_take 41 = .ok (.iconst 0, 1) := by decide +kernel
theorem dX1_take_42 : decode cX1_take 42 = .ok (.invokevirtual 77, 3) := by decide +kernel
theorem dX1_take_45 : decode cX1_take 45 = .ok (.putfield 81, 3) := by decide +kernel
theorem dX1_take_48 : decode cX1_take 48 = .ok (.iconst 1, 1) := by decide +kernel
theorem dX1_take_49 : decode cX1_take 49 = .ok (.istore 4, 2) := by decide +kernel
theorem dX1_take_51 : decode cX1_take 51 = .ok (.iload 4, 2) := by decide +kernel
theorem dX1_take_53 : decode cX1_take 53 = .ok (.aload_n 1, 1) := by decide +kernel
theorem dX1_take_54 : decode cX1_take 54 = .ok (.getfield 84, 3) := by decide +kernel
theorem dX1_take_57 : decode cX1_take 57 = .ok (.if_icmp .ge 26, 3) := by decide +kernel
theorem dX1_take_60 : decode cX1_take 60 = .ok (.aload_n 0, 1) := by decide +kernel
theorem dX1_take_61 : decode cX1_take 61 = .ok (.aload_n 0, 1) := by decide +kernel
theorem dX1_take_62 : decode cX1_take 62 = .ok (.getfield 81, 3) := by decide +kernel
theorem dX1_take_65 : decode cX1_take 65 = .ok (.aload_n 0, 1) := by decide +kernel
theorem dX1_take_66 : decode cX1_take 66 = .ok (.iload 4, 2) := by decide +kernel
theorem dX1_take_68 : decode cX1_take 68 = .ok (.invokevirtual 77, 3) := by decide +kernel
theorem dX1_take_71 : decode cX1_take 71 = .ok (.invokestatic 87, 3) := by decide +kernel
theorem dX1_take_74 : decode cX1_take 74 = .ok (.putfield 81, 3) := by decide +kernel
theorem dX1_take_77 : decode cX1_take 77 = .ok (.iinc 4 1, 3) := by decide +kernel
theorem dX1_take_80 : decode cX1_take 80 = .ok (.goto (-29), 3) := by decide +kernel
theorem dX1_take_83 : decode cX1_take 83 = .ok (.return_, 1) := by decide +kernel
theorem dX1_isEnd_0 : decode cX1_isEnd 0 = .ok (.iload_n 1, 1) := by decide +kernel
theorem dX1_isEnd_1 : decode cX1_isEnd 1 = .ok (.ifCond .eq 16, 3) := by decide +kernel
theorem dX1_isEnd_4 : decode cX1_isEnd 4 = .ok (.iload_n 1, 1) := by decide +kernel
theorem dX1_isEnd_5 : decode cX1_isEnd 5 = .ok (.aload_n 0, 1) := by decide +kernel
theorem dX1_isEnd_6 : decode cX1_isEnd 6 = .ok (.getfield 21, 3) := by decide +kernel
theorem dX1_isEnd_9 : decode cX1_isEnd 9 = .ok (.getfield 84, 3) := by decide +kernel
theorem dX1_isEnd_12 : decode cX1_isEnd 12 = .ok (.iconst 1, 1) := by decide +kernel
theorem dX1_isEnd_13 : decode cX1_isEnd 13 = .ok (.isub, 1) := by decide +kernel
theorem dX1_isEnd_14 : decode cX1_isEnd 14 = .ok (.if_icmp .ne 7, 3) := by decide +kernel
theorem dX1_isEnd_17 : decode cX1_isEnd 17 = .ok (.iconst 1, 1) := by decide +kernel
theorem dX1_isEnd_18 : decode cX1_isEnd 18 = .ok (.goto 4, 3) := by decide +kernel
theorem dX1_isEnd_21 : decode cX1_isEnd 21 = .ok (.iconst 0, 1) := by decide +kernel
theorem dX1_isEnd_22 : decode cX1_isEnd 22 = .ok (.ireturn, 1) := by decide +kernel
theorem dX1_loadOf_0 : decode cX1_loadOf 0 = .ok (.iload_n 2, 1) := by decide +kernel
theorem dX1_loadOf_1 : decode cX1_loadOf 1 = .ok (.aload_n 0, 1) := by decide +kernel
theorem dX1_loadOf_2 : decode cX1_loadOf 2 = .ok (.getfield 21, 3) := by decide +kernel
theorem dX1_loadOf_5 : decode cX1_loadOf 5 = .ok (.getfield 93, 3) := by decide +kernel
theorem dX1_loadOf_8 : decode cX1_loadOf 8 = .ok (.iload_n 1, 1) := by decide +kernel
theorem dX1_loadOf_9 : decode cX1_loadOf 9 = .ok (.iaload, 1) := by decide +kernel
theorem dX1_loadOf_10 : decode cX1_loadOf 10 = .ok (.imul, 1) := by decide +kernel
theorem dX1_loadOf_11 : decode cX1_loadOf 11 = .ok (.iconst 1, 1) := by decide +kernel
theorem dX1_loadOf_12 : decode cX1_loadOf 12 = .ok (.bipush 10, 2) := by decide +kernel
theorem dX1_loadOf_14 : decode cX1_loadOf 14 = .ok (.aload_n 0, 1) := by decide +kernel
theorem dX1_loadOf_15 : decode cX1_loadOf 15 = .ok (.getfield 21, 3) := by decide +kernel
theorem dX1_loadOf_18 : decode cX1_loadOf 18 = .ok (.getfield 96, 3) := by decide +kernel
theorem dX1_loadOf_21 : decode cX1_loadOf 21 = .ok (.iload_n 1, 1) := by decide +kernel
theorem dX1_loadOf_22 : decode cX1_loadOf 22 = .ok (.iaload, 1) := by decide +kernel
theorem dX1_loadOf_23 : decode cX1_loadOf 23 = .ok (.imul, 1) := by decide +kernel
theorem dX1_loadOf_24 : decode cX1_loadOf 24 = .ok (.invokestatic 99, 3) := by decide +kernel
theorem dX1_loadOf_27 : decode cX1_loadOf 27 = .ok (.idiv, 1) := by decide +kernel
theorem dX1_loadOf_28 : decode cX1_loadOf 28 = .ok (.istore_n 3, 1) := by decide +kernel
theorem dX1_loadOf_29 : decode cX1_loadOf 29 = .ok (.aload_n 0, 1) := by decide +kernel
theorem dX1_loadOf_30 : decode cX1_loadOf 30 = .ok (.iload_n 1, 1) := by decide +kernel
theorem dX1_loadOf_31 : decode cX1_loadOf 31 = .ok (.invokevirtual 102, 3) := by decide +kernel
theorem dX1_loadOf_34 : decode cX1_loadOf 34 = .ok (.ifCond .eq 23, 3) := by decide +kernel
theorem dX1_loadOf_37 : decode cX1_loadOf 37 = .ok (.iload_n 3, 1) := by decide +kernel
theorem dX1_loadOf_38 : decode cX1_loadOf 38 = .ok (.iload_n 2, 1) := by decide +kernel
theorem dX1_loadOf_39 : decode cX1_loadOf 39 = .ok (.aload_n 0, 1) := by decide +kernel
theorem dX1_loadOf_40 : decode cX1_loadOf 40 = .ok (.getfield 28, 3) := by decide +kernel
theorem dX1_loadOf_43 : decode cX1_loadOf 43 = .ok (.getfield 66, 3) := by decide +kernel
theorem dX1_loadOf_46 : decode cX1_loadOf 46 = .ok (.bipush 7, 2) := by decide +kernel
theorem dX1_loadOf_48 : decode cX1_loadOf 48 = .ok (.iaload, 1) := by decide +kernel
theorem dX1_loadOf_49 : decode cX1_loadOf 49 = .ok (.imul, 1) := by decide +kernel
theorem dX1_loadOf_50 : decode cX1_loadOf 50 = .ok (.bipush 100, 2) := by decide +kernel
theorem dX1_loadOf_52 : decode cX1_loadOf 52 = .ok (.idiv, 1) := by decide +kernel
theorem dX1_loadOf_53 : decode cX1_loadOf 53 = .ok (.iadd, 1) := by decide +kernel
theorem dX1_loadOf_54 : decode cX1_loadOf 54 = .ok (.goto 4, 3) := by decide +kernel
theorem dX1_loadOf_57 : decode cX1_loadOf 57 = .ok (.iload_n 3, 1) := by decide +kernel
theorem dX1_loadOf_58 : decode cX1_loadOf 58 = .ok (.ireturn, 1) := by decide +kernel
theorem dX1_bendThatBreaks_0 : decode cX1_bendThatBreaks 0 = .ok (.iconst 1, 1) := by decide +kernel
theorem dX1_bendThatBreaks_1 : decode cX1_bendThatBreaks 1 = .ok (.aload_n 0, 1) := by decide +kernel
theorem dX1_bendThatBreaks_2 : decode cX1_bendThatBreaks 2 = .ok (.getfield 21, 3) := by decide +kernel
theorem dX1_bendThatBreaks_5 : decode cX1_bendThatBreaks 5 = .ok (.getfield 93, 3) := by decide +kernel
theorem dX1_bendThatBreaks_8 : decode cX1_bendThatBreaks 8 = .ok (.iload_n 1, 1) := by decide +kernel
theorem dX1_bendThatBreaks_9 : decode cX1_bendThatBreaks 9 = .ok (.iaload, 1) := by decide +kernel
theorem dX1_bendThatBreaks_10 : decode cX1_bendThatBreaks 10 = .ok (.invokestatic 99, 3) := by decide +kernel
theorem dX1_bendThatBreaks_13 : decode cX1_bendThatBreaks 13 = .ok (.istore_n 2, 1) := by decide +kernel
theorem dX1_bendThatBreaks_14 : decode cX1_bendThatBreaks 14 = .ok (.aload_n 0, 1) := by decide +kernel
theorem dX1_bendThatBreaks_15 : decode cX1_bendThatBreaks 15 = .ok (.getfield 32, 3) := by decide +kernel
theorem dX1_bendThatBreaks_18 : decode cX1_bendThatBreaks 18 = .ok (.iload_n 1, 1) := by decide +kernel
theorem dX1_bendThatBreaks_19 : decode cX1_bendThatBreaks 19 = .ok (.iaload, 1) := by decide +kernel
theorem dX1_bendThatBreaks_20 : decode cX1_bendThatBreaks 20 = .ok (.iconst 1, 1) := by decide +kernel
theorem dX1_bendThatBreaks_21 : decode cX1_bendThatBreaks 21 = .ok (.iadd, 1) := by decide +kernel
theorem dX1_bendThatBreaks_22 : decode cX1_bendThatBreaks 22 = .ok (.bipush 10, 2) := by decide +kernel
theorem dX1_bendThatBreaks_24 : decode cX1_bendThatBreaks 24 = .ok (.imul, 1) := by decide +kernel
theorem dX1_bendThatBreaks_25 : decode cX1_bendThatBreaks 25 = .ok (.aload_n 0, 1) := by decide +kernel
theorem dX1_bendThatBreaks_26 : decode cX1_bendThatBreaks 26 = .ok (.getfield 21, 3) := by decide +kernel
theorem dX1_bendThatBreaks_29 : decode cX1_bendThatBreaks 29 = .ok (.getfield 96, 3) := by decide +kernel
theorem dX1_bendThatBreaks_32 : decode cX1_bendThatBreaks 32 = .ok (.iload_n 1, 1) := by decide +kernel
theorem dX1_bendThatBreaks_33 : decode cX1_bendThatBreaks 33 = .ok (.iaload, 1) := by decide +kernel
theorem dX1_bendThatBreaks_34 : decode cX1_bendThatBreaks 34 = .ok (.imul, 1) := by decide +kernel
theorem dX1_bendThatBreaks_35 : decode cX1_bendThatBreaks 35 = .ok (.iload_n 2, 1) := by decide +kernel
theorem dX1_bendThatBreaks_36 : decode cX1_bendThatBreaks 36 = .ok (.iadd, 1) := by decide +kernel
theorem dX1_bendThatBreaks_37 : decode cX1_bendThatBreaks 37 = .ok (.iconst 1, 1) := by decide +kernel
theorem dX1_bendThatBreaks_38 : decode cX1_bendThatBreaks 38 = .ok (.isub, 1) := by decide +kernel
theorem dX1_bendThatBreaks_39 : decode cX1_bendThatBreaks 39 = .ok (.iload_n 2, 1) := by decide +kernel
theorem dX1_bendThatBreaks_40 : decode cX1_bendThatBreaks 40 = .ok (.idiv, 1) := by decide +kernel
theorem dX1_bendThatBreaks_41 : decode cX1_bendThatBreaks 41 = .ok (.istore_n 3, 1) := by decide +kernel
theorem dX1_bendThatBreaks_42 : decode cX1_bendThatBreaks 42 = .ok (.aload_n 0, 1) := by decide +kernel
theorem dX1_bendThatBreaks_43 : decode cX1_bendThatBreaks 43 = .ok (.iload_n 1, 1) := by decide +kernel
theorem dX1_bendThatBreaks_44 : decode cX1_bendThatBreaks 44 = .ok (.invokevirtual 102, 3) := by decide +kernel
theorem dX1_bendThatBreaks_47 : decode cX1_bendThatBreaks 47 = .ok (.ifCond .eq 16, 3) := by decide +kernel
theorem dX1_bendThatBreaks_50 : decode cX1_bendThatBreaks 50 = .ok (.aload_n 0, 1) := by decide +kernel
theorem dX1_bendThatBreaks_51 : decode cX1_bendThatBreaks 51 = .ok (.getfield 28, 3) := by decide +kernel
theorem dX1_bendThatBreaks_54 : decode cX1_bendThatBreaks 54 = .ok (.getfield 66, 3) := by decide +kernel
theorem dX1_bendThatBreaks_57 : decode cX1_bendThatBreaks 57 = .ok (.bipush 7, 2) := by decide +kernel
theorem dX1_bendThatBreaks_59 : decode cX1_bendThatBreaks 59 = .ok (.iaload, 1) := by decide +kernel
theorem dX1_bendThatBreaks_60 : decode cX1_bendThatBreaks 60 = .ok (.ifCond .ne 5, 3) := by decide +kernel
theorem dX1_bendThatBreaks_63 : decode cX1_bendThatBreaks 63 = .ok (.iload_n 3, 1) := by decide +kernel
theorem dX1_bendThatBreaks_64 : decode cX1_bendThatBreaks 64 = .ok (.ireturn, 1) := by decide +kernel
theorem dX1_bendThatBreaks_65 : decode cX1_bendThatBreaks 65 = .ok (.iconst 1, 1) := by decide +kernel
theorem dX1_bendThatBreaks_66 : decode cX1_bendThatBreaks 66 = .ok (.istore 4, 2) := by decide +kernel
theorem dX1_bendThatBreaks_68 : decode cX1_bendThatBreaks 68 = .ok (.iconst 0, 1) := by decide +kernel
theorem dX1_bendThatBreaks_69 : decode cX1_bendThatBreaks 69 = .ok (.istore 5, 2) := by decide +kernel
theorem dX1_bendThatBreaks_71 : decode cX1_bendThatBreaks 71 = .ok (.iload 5, 2) := by decide +kernel
theorem dX1_bendThatBreaks_73 : decode cX1_bendThatBreaks 73 = .ok (.bipush 32, 2) := by decide +kernel
theorem dX1_bendThatBreaks_75 : decode cX1_bendThatBreaks 75 = .ok (.if_icmp .ge 51, 3) := by decide +kernel
theorem dX1_bendThatBreaks_78 : decode cX1_bendThatBreaks 78 = .ok (.iload 4, 2) := by decide +kernel
theorem dX1_bendThatBreaks_80 : decode cX1_bendThatBreaks 80 = .ok (.iload_n 3, 1) := by decide +kernel
theorem dX1_bendThatBreaks_81 : decode cX1_bendThatBreaks 81 = .ok (.if_icmp .ge 45, 3) := by decide +kernel
theorem dX1_bendThatBreaks_84 : decode cX1_bendThatBreaks 84 = .ok (.iload 4, 2) := by decide +kernel
theorem dX1_bendThatBreaks_86 : decode cX1_bendThatBreaks 86 = .ok (.iload_n 3, 1) := by decide +kernel
theorem dX1_bendThatBreaks_87 : decode cX1_bendThatBreaks 87 = .ok (.iadd, 1) := by decide +kernel
theorem dX1_bendThatBreaks_88 : decode cX1_bendThatBreaks 88 = .ok (.iconst 2, 1) := by decide +kernel
theorem dX1_bendThatBreaks_89 : decode cX1_bendThatBreaks 89 = .ok (.idiv, 1) := by decide +kernel
theorem dX1_bendThatBreaks_90 : decode cX1_bendThatBreaks 90 = .ok (.istore 6, 2) := by decide +kernel
theorem dX1_bendThatBreaks_92 : decode cX1_bendThatBreaks 92 = .ok (.aload_n 0, 1) := by decide +kernel
theorem dX1_bendThatBreaks_93 : decode cX1_bendThatBreaks 93 = .ok (.iload_n 1, 1) := by decide +kernel
theorem dX1_bendThatBreaks_94 : decode cX1_bendThatBreaks 94 = .ok (.iload 6, 2) := by decide +kernel
theorem dX1_bendThatBreaks_96 : decode cX1_bendThatBreaks 96 = .ok (.invokevirtual 106, 3) := by decide +kernel
theorem dX1_bendThatBreaks_99 : decode cX1_bendThatBreaks 99 = .ok (.aload_n 0, 1) := by decide +kernel
theorem dX1_bendThatBreaks_100 : decode cX1_bendThatBreaks 100 = .ok (.getfield 32, 3) := by decide +kernel
theorem dX1_bendThatBreaks_103 : decode cX1_bendThatBreaks 103 = .ok (.iload_n 1, 1) := by decide +kernel
theorem dX1_bendThatBreaks_104 : decode cX1_bendThatBreaks 104 = .ok (.iaload, 1) := by decide +kernel
theorem dX1_bendThatBreaks_105 : decode cX1_bendThatBreaks 105 = .ok (.if_icmp .le 9, 3) := by decide +kernel
theorem dX1_bendThatBreaks_108 : decode cX1_bendThatBreaks 108 = .ok (.iload 6, 2) := by decide +kernel
theorem dX1_bendThatBreaks_110 : decode cX1_bendThatBreaks 110 = .ok (.istore_n 3, 1) := by decide +kernel
theorem dX1_bendThatBreaks_111 : decode cX1_bendThatBreaks 111 = .ok (.goto 9, 3) := by decide +kernel
theorem dX1_bendThatBreaks_114 : decode cX1_bendThatBreaks 114 = .ok (.iload 6, 2) := by decide +kernel
theorem dX1_bendThatBreaks_116 : decode cX1_bendThatBreaks 116 = .ok (.iconst 1, 1) := by decide +kernel
theorem dX1_bendThatBreaks_117 : decode cX1_bendThatBreaks 117 = .ok (.iadd, 1) := by decide +kernel
theorem dX1_bendThatBreaks_118 : decode cX1_bendThatBreaks 118 = .ok (.istore 4, 2) := by decide +kernel
theorem dX1_bendThatBreaks_120 : decode cX1_bendThatBreaks 120 = .ok (.iinc 5 1, 3) := by decide +kernel
theorem dX1_bendThatBreaks_123 : decode cX1_bendThatBreaks 123 = .ok (.goto (-52), 3) := by decide +kernel
theorem dX1_bendThatBreaks_126 : decode cX1_bendThatBreaks 126 = .ok (.iload_n 3, 1) := by decide +kernel
theorem dX1_bendThatBreaks_127 : decode cX1_bendThatBreaks 127 = .ok (.ireturn, 1) := by decide +kernel
theorem dX1_bendBy_0 : decode cX1_bendBy 0 = .ok (.aload_n 0, 1) := by decide +kernel
theorem dX1_bendBy_1 : decode cX1_bendBy 1 = .ok (.aload_n 1, 1) := by decide +kernel
theorem dX1_bendBy_2 : decode cX1_bendBy 2 = .ok (.aload_n 0, 1) := by decide +kernel
theorem dX1_bendBy_3 : decode cX1_bendBy 3 = .ok (.getfield 81, 3) := by decide +kernel
theorem dX1_bendBy_6 : decode cX1_bendBy 6 = .ok (.iload_n 2, 1) := by decide +kernel
theorem dX1_bendBy_7 : decode cX1_bendBy 7 = .ok (.invokevirtual 109, 3) := by decide +kernel
theorem dX1_bendBy_10 : decode cX1_bendBy 10 = .ok (.putfield 114, 3) := by decide +kernel
theorem dX1_bendBy_13 : decode cX1_bendBy 13 = .ok (.aload_n 0, 1) := by decide +kernel
theorem dX1_bendBy_14 : decode cX1_bendBy 14 = .ok (.iconst (-1), 1) := by decide +kernel
theorem dX1_bendBy_15 : decode cX1_bendBy 15 = .ok (.putfield 117, 3) := by decide +kernel
theorem dX1_bendBy_18 : decode cX1_bendBy 18 = .ok (.aload_n 0, 1) := by decide +kernel
theorem dX1_bendBy_19 : decode cX1_bendBy 19 = .ok (.getfield 114, 3) := by decide +kernel
theorem dX1_bendBy_22 : decode cX1_bendBy 22 = .ok (.iconst 1, 1) := by decide +kernel
theorem dX1_bendBy_23 : decode cX1_bendBy 23 = .ok (.iadd, 1) := by decide +kernel
theorem dX1_bendBy_24 : decode cX1_bendBy 24 = .ok (.istore_n 3, 1) := by decide +kernel
theorem dX1_bendBy_25 : decode cX1_bendBy 25 = .ok (.aload_n 0, 1) := by decide +kernel
theorem dX1_bendBy_26 : decode cX1_bendBy 26 = .ok (.getfield 114, 3) := by decide +kernel
theorem dX1_bendBy_29 : decode cX1_bendBy 29 = .ok (.iconst (-1), 1) := by decide +kernel
theorem dX1_bendBy_30 : decode cX1_bendBy 30 = .ok (.if_icmp .ne 16, 3) := by decide +kernel
theorem dX1_bendBy_33 : decode cX1_bendBy 33 = .ok (.aload_n 1, 1) := by decide +kernel
theorem dX1_bendBy_34 : decode cX1_bendBy 34 = .ok (.invokevirtual 120, 3) := by decide +kernel
theorem dX1_bendBy_37 : decode cX1_bendBy 37 = .ok (.iload_n 2, 1) := by decide +kernel
theorem dX1_bendBy_38 : decode cX1_bendBy 38 = .ok (.imul, 1) := by decide +kernel
theorem dX1_bendBy_39 : decode cX1_bendBy 39 = .ok (.sipush 4000, 3) := by decide +kernel
theorem dX1_bendBy_42 : decode cX1_bendBy 42 = .ok (.invokestatic 87, 3) := by decide +kernel
theorem dX1_bendBy_45 : decode cX1_bendBy 45 = .ok (.istore_n 3, 1) := by decide +kernel
theorem dX1_bendBy_46 : decode cX1_bendBy 46 = .ok (.aload_n 0, 1) := by decide +kernel
theorem dX1_bendBy_47 : decode cX1_bendBy 47 = .ok (.getfield 12, 3) := by decide +kernel
theorem dX1_bendBy_50 : decode cX1_bendBy 50 = .ok (.getfield 124, 3) := by decide +kernel
theorem dX1_bendBy_53 : decode cX1_bendBy 53 = .ok (.iconst 4, 1) := by decide +kernel
theorem dX1_bendBy_54 : decode cX1_bendBy 54 = .ok (.iload_n 3, 1) := by decide +kernel
theorem dX1_bendBy_55 : decode cX1_bendBy 55 = .ok (.iastore, 1) := by decide +kernel
theorem dX1_bendBy_56 : decode cX1_bendBy 56 = .ok (.aload_n 0, 1) := by decide +kernel
theorem dX1_bendBy_57 : decode cX1_bendBy 57 = .ok (.getfield 12, 3) := by decide +kernel
theorem dX1_bendBy_60 : decode cX1_bendBy 60 = .ok (.getfield 124, 3) := by decide +kernel
theorem dX1_bendBy_63 : decode cX1_bendBy 63 = .ok (.iconst 5, 1) := by decide +kernel
theorem dX1_bendBy_64 : decode cX1_bendBy 64 = .ok (.aload_n 1, 1) := by decide +kernel
theorem dX1_bendBy_65 : decode cX1_bendBy 65 = .ok (.iload_n 3, 1) := by decide +kernel
theorem dX1_bendBy_66 : decode cX1_bendBy 66 = .ok (.iload_n 2, 1) := by decide +kernel
theorem dX1_bendBy_67 : decode cX1_bendBy 67 = .ok (.invokevirtual 127, 3) := by decide +kernel
theorem dX1_bendBy_70 : decode cX1_bendBy 70 = .ok (.iastore, 1) := by decide +kernel
theorem dX1_bendBy_71 : decode cX1_bendBy 71 = .ok (.aload_n 0, 1) := by decide +kernel
theorem dX1_bendBy_72 : decode cX1_bendBy 72 = .ok (.getfield 12, 3) := by decide +kernel
theorem dX1_bendBy_75 : decode cX1_bendBy 75 = .ok (.getfield 124, 3) := by decide +kernel
theorem dX1_bendBy_78 : decode cX1_bendBy 78 = .ok (.bipush 6, 2) := by decide +kernel
theorem dX1_bendBy_80 : decode cX1_bendBy 80 = .ok (.aload_n 1, 1) := by decide +kernel
theorem dX1_bendBy_81 : decode cX1_bendBy 81 = .ok (.iload_n 3, 1) := by decide +kernel
theorem dX1_bendBy_82 : decode cX1_bendBy 82 = .ok (.iload_n 2, 1) := by decide +kernel
theorem dX1_bendBy_83 : decode cX1_bendBy 83 = .ok (.invokevirtual 130, 3) := by decide +kernel
theorem dX1_bendBy_86 : decode cX1_bendBy 86 = .ok (.iastore, 1) := by decide +kernel
theorem dX1_bendBy_87 : decode cX1_bendBy 87 = .ok (.aload_n 0, 1) := by decide +kernel
theorem dX1_bendBy_88 : decode cX1_bendBy 88 = .ok (.getfield 114, 3) := by decide +kernel
theorem dX1_bendBy_91 : decode cX1_bendBy 91 = .ok (.iconst (-1), 1) := by decide +kernel
theorem dX1_bendBy_92 : decode cX1_bendBy 92 = .ok (.if_icmp .eq 7, 3) := by decide +kernel
theorem dX1_bendBy_95 : decode cX1_bendBy 95 = .ok (.aload_n 0, 1) := by decide +kernel
theorem dX1_bendBy_96 : decode cX1_bendBy 96 = .ok (.invokevirtual 133, 3) := by decide +kernel
theorem dX1_bendBy_99 : decode cX1_bendBy 99 = .ok (.return_, 1) := by decide +kernel
theorem dX1_findFirstCell_0 : decode cX1_findFirstCell 0 = .ok (.iconst 0, 1) := by decide +kernel
theorem dX1_findFirstCell_1 : decode cX1_findFirstCell 1 = .ok (.istore_n 1, 1) := by decide +kernel
theorem dX1_findFirstCell_2 : decode cX1_findFirstCell 2 = .ok (.iconst 0, 1) := by decide +kernel
theorem dX1_findFirstCell_3 : decode cX1_findFirstCell 3 = .ok (.istore_n 2, 1) := by decide +kernel
theorem dX1_findFirstCell_4 : decode cX1_findFirstCell 4 = .ok (.iload_n 2, 1) := by decide +kernel
theorem dX1_findFirstCell_5 : decode cX1_findFirstCell 5 = .ok (.aload_n 0, 1) := by decide +kernel
theorem dX1_findFirstCell_6 : decode cX1_findFirstCell 6 = .ok (.getfield 21, 3) := by decide +kernel
theorem dX1_findFirstCell_9 : decode cX1_findFirstCell 9 = .ok (.getfield 84, 3) := by decide +kernel
theorem dX1_findFirstCell_12 : decode cX1_findFirstCell 12 = .ok (.if_icmp .ge 65, 3) := by decide +kernel
theorem dX1_findFirstCell_15 : decode cX1_findFirstCell 15 = .ok (.aload_n 0, 1) := by decide +kernel
theorem dX1_findFirstCell_16 : decode cX1_findFirstCell 16 = .ok (.getfield 36, 3) := by decide +kernel
theorem dX1_findFirstCell_19 : decode cX1_findFirstCell 19 = .ok (.iload_n 2, 1) := by decide +kernel
theorem dX1_findFirstCell_20 : decode cX1_findFirstCell 20 = .ok (.aload_n 0, 1) := by decide +kernel
theorem dX1_findFirstCell_21 : decode cX1_findFirstCell 21 = .ok (.iload_n 2, 1) := by decide +kernel
theorem dX1_findFirstCell_22 : decode cX1_findFirstCell 22 = .ok (.aload_n 0, 1) := by decide +kernel
theorem dX1_findFirstCell_23 : decode cX1_findFirstCell 23 = .ok (.getfield 12, 3) := by decide +kernel
theorem dX1_findFirstCell_26 : decode cX1_findFirstCell 26 = .ok (.getfield 124, 3) := by decide +kernel
theorem dX1_findFirstCell_29 : decode cX1_findFirstCell 29 = .ok (.iconst 5, 1) := by decide +kernel
theorem dX1_findFirstCell_30 : decode cX1_findFirstCell 30 = .ok (.iaload, 1) := by decide +kernel
theorem dX1_findFirstCell_31 : decode cX1_findFirstCell 31 = .ok (.invokevirtual 106, 3) := by decide +kernel
theorem dX1_findFirstCell_34 : decode cX1_findFirstCell 34 = .ok (.iastore, 1) := by decide +kernel
theorem dX1_findFirstCell_35 : decode cX1_findFirstCell 35 = .ok (.aload_n 0, 1) := by decide +kernel
theorem dX1_findFirstCell_36 : decode cX1_findFirstCell 36 = .ok (.getfield 36, 3) := by decide +kernel
theorem dX1_findFirstCell_39 : decode cX1_findFirstCell 39 = .ok (.iload_n 2, 1) := by decide +kernel
theorem dX1_findFirstCell_40 : decode cX1_findFirstCell 40 = .ok (.iaload, 1) := by decide +kernel
theorem dX1_findFirstCell_41 : decode cX1_findFirstCell 41 = .ok (.aload_n 0, 1) := by decide +kernel
theorem dX1_findFirstCell_42 : decode cX1_findFirstCell 42 = .ok (.getfield 32, 3) := by decide +kernel
theorem dX1_findFirstCell_45 : decode cX1_findFirstCell 45 = .ok (.iload_n 2, 1) := by decide +kernel
theorem dX1_findFirstCell_46 : decode cX1_findFirstCell 46 = .ok (.iaload, 1) := by decide +kernel
theorem dX1_findFirstCell_47 : decode cX1_findFirstCell 47 = .ok (.isub, 1) := by decide +kernel
theorem dX1_findFirstCell_48 : decode cX1_findFirstCell 48 = .ok (.iload_n 1, 1) := by decide +kernel
theorem dX1_findFirstCell_49 : decode cX1_findFirstCell 49 = .ok (.if_icmp .le 22, 3) := by decide +kernel
theorem dX1_findFirstCell_52 : decode cX1_findFirstCell 52 = .ok (.aload_n 0, 1) := by decide +kernel
theorem dX1_findFirstCell_53 : decode cX1_findFirstCell 53 = .ok (.getfield 36, 3) := by decide +kernel
theorem dX1_findFirstCell_56 : decode cX1_findFirstCell 56 = .ok (.iload_n 2, 1) := by decide +kernel
theorem dX1_findFirstCell_57 : decode cX1_findFirstCell 57 = .ok (.iaload, 1) := by decide +kernel
theorem dX1_findFirstCell_58 : decode cX1_findFirstCell 58 = .ok (.aload_n 0, 1) := by decide +kernel
theorem dX1_findFirstCell_59 : decode cX1_findFirstCell 59 = .ok (.getfield 32, 3) := by decide +kernel
theorem dX1_findFirstCell_62 : decode cX1_findFirstCell 62 = .ok (.iload_n 2, 1) := by decide +kernel
theorem dX1_findFirstCell_63 : decode cX1_findFirstCell 63 = .ok (.iaload, 1) := by decide +kernel
theorem dX1_findFirstCell_64 : decode cX1_findFirstCell 64 = .ok (.isub, 1) := by decide +kernel
theorem dX1_findFirstCell_65 : decode cX1_findFirstCell 65 = .ok (.istore_n 1, 1) := by decide +kernel
theorem dX1_findFirstCell_66 : decode cX1_findFirstCell 66 = .ok (.aload_n 0, 1) := by decide +kernel
theorem dX1_findFirstCell_67 : decode cX1_findFirstCell 67 = .ok (.iload_n 2, 1) := by decide +kernel
theorem dX1_findFirstCell_68 : decode cX1_findFirstCell 68 = .ok (.putfield 117, 3) := by decide +kernel
theorem dX1_findFirstCell_71 : decode cX1_findFirstCell 71 = .ok (.iinc 2 1, 3) := by decide +kernel
theorem dX1_findFirstCell_74 : decode cX1_findFirstCell 74 = .ok (.goto (-70), 3) := by decide +kernel
theorem dX1_findFirstCell_77 : decode cX1_findFirstCell 77 = .ok (.return_, 1) := by decide +kernel
theorem dX1_sendWaves_0 : decode cX1_sendWaves 0 = .ok (.aload_n 0, 1) := by decide +kernel
theorem dX1_sendWaves_1 : decode cX1_sendWaves 1 = .ok (.iload_n 2, 1) := by decide +kernel
theorem dX1_sendWaves_2 : decode cX1_sendWaves 2 = .ok (.putfield 136, 3) := by decide +kernel
theorem dX1_sendWaves_5 : decode cX1_sendWaves 5 = .ok (.aload_n 0, 1) := by decide +kernel
theorem dX1_sendWaves_6 : decode cX1_sendWaves 6 = .ok (.iconst (-1), 1) := by decide +kernel
theorem dX1_sendWaves_7 : decode cX1_sendWaves 7 = .ok (.putfield 140, 3) := by decide +kernel
theorem dX1_sendWaves_10 : decode cX1_sendWaves 10 = .ok (.aload_n 0, 1) := by decide +kernel
theorem dX1_sendWaves_11 : decode cX1_sendWaves 11 = .ok (.iconst (-1), 1) := by decide +kernel
theorem dX1_sendWaves_12 : decode cX1_sendWaves 12 = .ok (.putfield 143, 3) := by decide +kernel
theorem dX1_sendWaves_15 : decode cX1_sendWaves 15 = .ok (.aload_n 0, 1) := by decide +kernel
theorem dX1_sendWaves_16 : decode cX1_sendWaves 16 = .ok (.aload_n 0, 1) := by decide +kernel
theorem dX1_sendWaves_17 : decode cX1_sendWaves 17 = .ok (.getfield 28, 3) := by decide +kernel
theorem dX1_sendWaves_20 : decode cX1_sendWaves 20 = .ok (.iload_n 1, 1) := by decide +kernel
theorem dX1_sendWaves_21 : decode cX1_sendWaves 21 = .ok (.iconst (-1), 1) := by decide +kernel
theorem dX1_sendWaves_22 : decode cX1_sendWaves 22 = .ok (.if_icmp .ne 16, 3) := by decide +kernel
theorem dX1_sendWaves_25 : decode cX1_sendWaves 25 = .ok (.aload_n 0, 1) := by decide +kernel
theorem dX1_sendWaves_26 : decode cX1_sendWaves 26 = .ok (.getfield 12, 3) := by decide +kernel
theorem dX1_sendWaves_29 : decode cX1_sendWaves 29 = .ok (.getfield 124, 3) := by decide +kernel
theorem dX1_sendWaves_32 : decode cX1_sendWaves 32 = .ok (.bipush 6, 2) := by decide +kernel
theorem dX1_sendWaves_34 : decode cX1_sendWaves 34 = .ok (.iaload, 1) := by decide +kernel
theorem dX1_sendWaves_35 : decode cX1_sendWaves 35 = .ok (.goto 4, 3) := by decide +kernel
theorem dX1_sendWaves_38 : decode cX1_sendWaves 38 = .ok (.iload_n 1, 1) := by decide +kernel
theorem dX1_sendWaves_39 : decode cX1_sendWaves 39 = .ok (.invokevirtual 146, 3) := by decide +kernel
theorem dX1_sendWaves_42 : decode cX1_sendWaves 42 = .ok (.putfield 149, 3) := by decide +kernel
theorem dX1_sendWaves_45 : decode cX1_sendWaves 45 = .ok (.aload_n 0, 1) := by decide +kernel
theorem dX1_sendWaves_46 : decode cX1_sendWaves 46 = .ok (.getfield 12, 3) := by decide +kernel
theorem dX1_sendWaves_49 : decode cX1_sendWaves 49 = .ok (.getfield 124, 3) := by decide +kernel
theorem dX1_sendWaves_52 : decode cX1_sendWaves 52 = .ok (.iconst 0, 1) := by decide +kernel
theorem dX1_sendWaves_53 : decode cX1_sendWaves 53 = .ok (.iconst 0, 1) := by decide +kernel
theorem dX1_sendWaves_54 : decode cX1_sendWaves 54 = .ok (.iastore, 1) := by decide +kernel
theorem dX1_sendWaves_55 : decode cX1_sendWaves 55 = .ok (.aload_n 0, 1) := by decide +kernel
theorem dX1_sendWaves_56 : decode cX1_sendWaves 56 = .ok (.getfield 12, 3) := by decide +kernel
theorem dX1_sendWaves_59 : decode cX1_sendWaves 59 = .ok (.getfield 124, 3) := by decide +kernel
theorem dX1_sendWaves_62 : decode cX1_sendWaves 62 = .ok (.iconst 2, 1) := by decide +kernel
theorem dX1_sendWaves_63 : decode cX1_sendWaves 63 = .ok (.iconst 0, 1) := by decide +kernel
theorem dX1_sendWaves_64 : decode cX1_sendWaves 64 = .ok (.iastore, 1) := by decide +kernel
theorem dX1_sendWaves_65 : decode cX1_sendWaves 65 = .ok (.aload_n 0, 1) := by decide +kernel
theorem dX1_sendWaves_66 : decode cX1_sendWaves 66 = .ok (.getfield 12, 3) := by decide +kernel
theorem dX1_sendWaves_69 : decode cX1_sendWaves 69 = .ok (.getfield 124, 3) := by decide +kernel
theorem dX1_sendWaves_72 : decode cX1_sendWaves 72 = .ok (.iconst 3, 1) := by decide +kernel
theorem dX1_sendWaves_73 : decode cX1_sendWaves 73 = .ok (.iconst 0, 1) := by decide +kernel
theorem dX1_sendWaves_74 : decode cX1_sendWaves 74 = .ok (.iastore, 1) := by decide +kernel
theorem dX1_sendWaves_75 : decode cX1_sendWaves 75 = .ok (.aload_n 0, 1) := by decide +kernel
theorem dX1_sendWaves_76 : decode cX1_sendWaves 76 = .ok (.iconst 0, 1) := by decide +kernel
theorem dX1_sendWaves_77 : decode cX1_sendWaves 77 = .ok (.putfield 152, 3) := by decide +kernel
theorem dX1_sendWaves_80 : decode cX1_sendWaves 80 = .ok (.aload_n 0, 1) := by decide +kernel
theorem dX1_sendWaves_81 : decode cX1_sendWaves 81 = .ok (.getfield 39, 3) := by decide +kernel
theorem dX1_sendWaves_84 : decode cX1_sendWaves 84 = .ok (.iconst 0, 1) := by decide +kernel
theorem dX1_sendWaves_85 : decode cX1_sendWaves 85 = .ok (.invokestatic 155, 3) := by decide +kernel
theorem dX1_sendWaves_88 : decode cX1_sendWaves 88 = .ok (.aload_n 0, 1) := by decide +kernel
theorem dX1_sendWaves_89 : decode cX1_sendWaves 89 = .ok (.getfield 42, 3) := by decide +kernel
theorem dX1_sendWaves_92 : decode cX1_sendWaves 92 = .ok (.iconst 0, 1) := by decide +kernel
theorem dX1_sendWaves_93 : decode cX1_sendWaves 93 = .ok (.invokestatic 155, 3) := by decide +kernel
theorem dX1_sendWaves_96 : decode cX1_sendWaves 96 = .ok (.aload_n 0, 1) := by decide +kernel
theorem dX1_sendWaves_97 : decode cX1_sendWaves 97 = .ok (.getfield 117, 3) := by decide +kernel
theorem dX1_sendWaves_100 : decode cX1_sendWaves 100 = .ok (.iconst (-1), 1) := by decide +kernel
theorem dX1_sendWaves_101 : decode cX1_sendWaves 101 = .ok (.if_icmp .eq 118, 3) := by decide +kernel
theorem dX1_sendWaves_104 : decode cX1_sendWaves 104 = .ok (.aload_n 0, 1) := by decide +kernel
theorem dX1_sendWaves_105 : decode cX1_sendWaves 105 = .ok (.aload_n 0, 1) := by decide +kernel
theorem dX1_sendWaves_106 : decode cX1_sendWaves 106 = .ok (.getfield 117, 3) := by decide +kernel
theorem dX1_sendWaves_109 : decode cX1_sendWaves 109 = .ok (.aload_n 0, 1) := by decide +kernel
theorem dX1_sendWaves_110 : decode cX1_sendWaves 110 = .ok (.getfield 114, 3) := by decide +kernel
theorem dX1_sendWaves_113 : decode cX1_sendWaves 113 = .ok (.aload_n 0, 1) := by decide +kernel
theorem dX1_sendWaves_114 : decode cX1_sendWaves 114 = .ok (.invokevirtual 161, 3) := by decide +kernel
theorem dX1_sendWaves_117 : decode cX1_sendWaves 117 = .ok (.aload_n 0, 1) := by decide +kernel
theorem dX1_sendWaves_118 : decode cX1_sendWaves 118 = .ok (.getfield 36, 3) := by decide +kernel
theorem dX1_sendWaves_121 : decode cX1_sendWaves 121 = .ok (.aload_n 0, 1) := by decide +kernel
theorem dX1_sendWaves_122 : decode cX1_sendWaves 122 = .ok (.getfield 117, 3) := by decide +kernel
theorem dX1_sendWaves_125 : decode cX1_sendWaves 125 = .ok (.iaload, 1) := by decide +kernel
theorem dX1_sendWaves_126 : decode cX1_sendWaves 126 = .ok (.invokevirtual 164, 3) := by decide +kernel
theorem dX1_sendWaves_129 : decode cX1_sendWaves 129 = .ok (.iconst 1, 1) := by decide +kernel
theorem dX1_sendWaves_130 : decode cX1_sendWaves 130 = .ok (.aload_n 0, 1) := by decide +kernel
theorem dX1_sendWaves_131 : decode cX1_sendWaves 131 = .ok (.getfield 28, 3) := by decide +kernel
theorem dX1_sendWaves_134 : decode cX1_sendWaves 134 = .ok (.getfield 66, 3) := by decide +kernel
theorem dX1_sendWaves_137 : decode cX1_sendWaves 137 = .ok (.iconst 2, 1) := by decide +kernel
theorem dX1_sendWaves_138 : decode cX1_sendWaves 138 = .ok (.iaload, 1) := by decide +kernel
theorem dX1_sendWaves_139 : decode cX1_sendWaves 139 = .ok (.invokestatic 99, 3) := by decide +kernel
theorem dX1_sendWaves_142 : decode cX1_sendWaves 142 = .ok (.istore_n 3, 1) := by decide +kernel
theorem dX1_sendWaves_143 : decode cX1_sendWaves 143 = .ok (.aload_n 0, 1) := by decide +kernel
theorem dX1_sendWaves_144 : decode cX1_sendWaves 144 = .ok (.getfield 114, 3) := by decide +kernel
theorem dX1_sendWaves_147 : decode cX1_sendWaves 147 = .ok (.iconst 1, 1) := by decide +kernel
theorem dX1_sendWaves_148 : decode cX1_sendWaves 148 = .ok (.iadd, 1) := by decide +kernel
theorem dX1_sendWaves_149 : decode cX1_sendWaves 149 = .ok (.istore 4, 2) := by decide +kernel
theorem dX1_sendWaves_151 : decode cX1_sendWaves 151 = .ok (.aload_n 0, 1) := by decide +kernel
theorem dX1_sendWaves_152 : decode cX1_sendWaves 152 = .ok (.getfield 114, 3) := by decide +kernel
theorem dX1_sendWaves_155 : decode cX1_sendWaves 155 = .ok (.iload_n 3, 1) := by decide +kernel
theorem dX1_sendWaves_156 : decode cX1_sendWaves 156 = .ok (.iadd, 1) := by decide +kernel
theorem dX1_sendWaves_157 : decode cX1_sendWaves 157 = .ok (.istore 5, 2) := by decide +kernel
theorem dX1_sendWaves_159 : decode cX1_sendWaves 159 = .ok (.iload 5, 2) := by decide +kernel
theorem dX1_sendWaves_161 : decode cX1_sendWaves 161 = .ok (.sipush 4000, 3) := by decide +kernel
theorem dX1_sendWaves_164 : decode cX1_sendWaves 164 = .ok (.if_icmp .ge 31, 3) := by decide +kernel
theorem dX1_sendWaves_167 : decode cX1_sendWaves 167 = .ok (.aload_n 0, 1) := by decide +kernel
theorem dX1_sendWaves_168 : decode cX1_sendWaves 168 = .ok (.getfield 152, 3) := by decide +kernel
theorem dX1_sendWaves_171 : decode cX1_sendWaves 171 = .ok (.ifCond .le 24, 3) := by decide +kernel
theorem dX1_sendWaves_174 : decode cX1_sendWaves 174 = .ok (.aload_n 0, 1) := by decide +kernel
theorem dX1_sendWaves_175 : decode cX1_sendWaves 175 = .ok (.iload 5, 2) := by decide +kernel
theorem dX1_sendWaves_177 : decode cX1_sendWaves 177 = .ok (.invokevirtual 168, 3) := by decide +kernel
theorem dX1_sendWaves_180 : decode cX1_sendWaves 180 = .ok (.iload 5, 2) := by decide +kernel
theorem dX1_sendWaves_182 : decode cX1_sendWaves 182 = .ok (.iconst 1, 1) := by decide +kernel
theorem dX1_sendWaves_183 : decode cX1_sendWaves 183 = .ok (.iadd, 1) := by decide +kernel
theorem dX1_sendWaves_184 : decode cX1_sendWaves 184 = .ok (.istore 4, 2) := by decide +kernel
theorem dX1_sendWaves_186 : decode cX1_sendWaves 186 = .ok (.iload 5, 2) := by decide +kernel
theorem dX1_sendWaves_188 : decode cX1_sendWaves 188 = .ok (.iload_n 3, 1) := by decide +kernel
theorem dX1_sendWaves_189 : decode cX1_sendWaves 189 = .ok (.iadd, 1) := by decide +kernel
theorem dX1_sendWaves_190 : decode cX1_sendWaves 190 = .ok (.istore 5, 2) := by decide +kernel
theorem dX1_sendWaves_192 : decode cX1_sendWaves 192 = .ok (.goto (-33), 3) := by decide +kernel
theorem dX1_sendWaves_195 : decode cX1_sendWaves 195 = .ok (.aload_n 0, 1) := by decide +kernel
theorem dX1_sendWaves_196 : decode cX1_sendWaves 196 = .ok (.getfield 12, 3) := by decide +kernel
theorem dX1_sendWaves_199 : decode cX1_sendWaves 199 = .ok (.getfield 124, 3) := by decide +kernel
theorem dX1_sendWaves_202 : decode cX1_sendWaves 202 = .ok (.iconst 4, 1) := by decide +kernel
theorem dX1_sendWaves_203 : decode cX1_sendWaves 203 = .ok (.aload_n 0, 1) := by decide +kernel
theorem dX1_sendWaves_204 : decode cX1_sendWaves 204 = .ok (.getfield 152, 3) := by decide +kernel
theorem dX1_sendWaves_207 : decode cX1_sendWaves 207 = .ok (.ifCond .le 9, 3) := by decide +kernel
theorem dX1_sendWaves_210 : decode cX1_sendWaves 210 = .ok (.sipush 4000, 3) := by decide +kernel
theorem dX1_sendWaves_213 : decode cX1_sendWaves 213 = .ok (.goto 5, 3) := by decide +kernel
theorem dX1_sendWaves_216 : decode cX1_sendWaves 216 = .ok (.iload 4, 2) := by decide +kernel
theorem dX1_sendWaves_218 : decode cX1_sendWaves 218 = .ok (.iastore, 1) := by decide +kernel
theorem dX1_sendWaves_219 : decode cX1_sendWaves 219 = .ok (.aload_n 0, 1) := by decide +kernel
theorem dX1_sendWaves_220 : decode cX1_sendWaves 220 = .ok (.invokevirtual 172, 3) := by decide +kernel
theorem dX1_sendWaves_223 : decode cX1_sendWaves 223 = .ok (.aload_n 0, 1) := by decide +kernel
theorem dX1_sendWaves_224 : decode cX1_sendWaves 224 = .ok (.getfield 12, 3) := by decide +kernel
theorem dX1_sendWaves_227 : decode cX1_sendWaves 227 = .ok (.getfield 124, 3) := by decide +kernel
theorem dX1_sendWaves_230 : decode cX1_sendWaves 230 = .ok (.iconst 1, 1) := by decide +kernel
theorem dX1_sendWaves_231 : decode cX1_sendWaves 231 = .ok (.iaload, 1) := by decide +kernel
theorem dX1_sendWaves_232 : decode cX1_sendWaves 232 = .ok (.ireturn, 1) := by decide +kernel
theorem dX1_aboveStrength_0 : decode cX1_aboveStrength 0 = .ok (.aload_n 0, 1) := by decide +kernel
theorem dX1_aboveStrength_1 : decode cX1_aboveStrength 1 = .ok (.getfield 143, 3) := by decide +kernel
theorem dX1_aboveStrength_4 : decode cX1_aboveStrength 4 = .ok (.iconst (-1), 1) := by decide +kernel
theorem dX1_aboveStrength_5 : decode cX1_aboveStrength 5 = .ok (.if_icmp .ne 8, 3) := by decide +kernel
theorem dX1_aboveStrength_8 : decode cX1_aboveStrength 8 = .ok (.ldc 175, 2) := by decide +kernel
theorem dX1_aboveStrength_10 : decode cX1_aboveStrength 10 = .ok (.goto 17, 3) := by decide +kernel
theorem dX1_aboveStrength_13 : decode cX1_aboveStrength 13 = .ok (.aload_n 0, 1) := by decide +kernel
theorem dX1_aboveStrength_14 : decode cX1_aboveStrength 14 = .ok (.getfield 140, 3) := by decide +kernel
theorem dX1_aboveStrength_17 : decode cX1_aboveStrength 17 = .ok (.aload_n 0, 1) := by decide +kernel
theorem dX1_aboveStrength_18 : decode cX1_aboveStrength 18 = .ok (.getfield 32, 3) := by decide +kernel
theorem dX1_aboveStrength_21 : decode cX1_aboveStrength 21 = .ok (.aload_n 0, 1) := by decide +kernel
theorem dX1_aboveStrength_22 : decode cX1_aboveStrength 22 = .ok (.getfield 143, 3) := by decide +kernel
theorem dX1_aboveStrength_25 : decode cX1_aboveStrength 25 = .ok (.iaload, 1) := by decide +kernel
theorem dX1_aboveStrength_26 : decode cX1_aboveStrength 26 = .ok (.isub, 1) := by decide +kernel
theorem dX1_aboveStrength_27 : decode cX1_aboveStrength 27 = .ok (.ireturn, 1) := by decide +kernel
theorem dX1_kindOfFirst_0 : decode cX1_kindOfFirst 0 = .ok (.aload_n 0, 1) := by decide +kernel
theorem dX1_kindOfFirst_1 : decode cX1_kindOfFirst 1 = .ok (.aload_n 0, 1) := by decide +kernel
theorem dX1_kindOfFirst_2 : decode cX1_kindOfFirst 2 = .ok (.getfield 117, 3) := by decide +kernel
theorem dX1_kindOfFirst_5 : decode cX1_kindOfFirst 5 = .ok (.invokevirtual 102, 3) := by decide +kernel
theorem dX1_kindOfFirst_8 : decode cX1_kindOfFirst 8 = .ok (.ifCond .eq 5, 3) := by decide +kernel
theorem dX1_kindOfFirst_11 : decode cX1_kindOfFirst 11 = .ok (.iconst 3, 1) := by decide +kernel
theorem dX1_kindOfFirst_12 : decode cX1_kindOfFirst 12 = .ok (.ireturn, 1) := by decide +kernel
theorem dX1_kindOfFirst_13 : decode cX1_kindOfFirst 13 = .ok (.aload_n 0, 1) := by decide +kernel
theorem dX1_kindOfFirst_14 : decode cX1_kindOfFirst 14 = .ok (.getfield 32, 3) := by decide +kernel
theorem dX1_kindOfFirst_17 : decode cX1_kindOfFirst 17 = .ok (.aload_n 0, 1) := by decide +kernel
theorem dX1_kindOfFirst_18 : decode cX1_kindOfFirst 18 = .ok (.getfield 117, 3) := by decide +kernel
theorem dX1_kindOfFirst_21 : decode cX1_kindOfFirst 21 = .ok (.iaload, 1) := by decide +kernel
theorem dX1_kindOfFirst_22 : decode cX1_kindOfFirst 22 = .ok (.aload_n 0, 1) := by decide +kernel
theorem dX1_kindOfFirst_23 : decode cX1_kindOfFirst 23 = .ok (.getfield 21, 3) := by decide +kernel
theorem dX1_kindOfFirst_26 : decode cX1_kindOfFirst 26 = .ok (.getfield 176, 3) := by decide +kernel
theorem dX1_kindOfFirst_29 : decode cX1_kindOfFirst 29 = .ok (.aload_n 0, 1) := by decide +kernel
theorem dX1_kindOfFirst_30 : decode cX1_kindOfFirst 30 = .ok (.getfield 117, 3) := by decide +kernel
theorem dX1_kindOfFirst_33 : decode cX1_kindOfFirst 33 = .ok (.iaload, 1) := by decide +kernel
theorem dX1_kindOfFirst_34 : decode cX1_kindOfFirst 34 = .ok (.if_icmp .ge 7, 3) := by decide +kernel
theorem dX1_kindOfFirst_37 : decode cX1_kindOfFirst 37 = .ok (.iconst 4, 1) := by decide +kernel
theorem dX1_kindOfFirst_38 : decode cX1_kindOfFirst 38 = .ok (.goto 4, 3) := by decide +kernel
theorem dX1_kindOfFirst_41 : decode cX1_kindOfFirst 41 = .ok (.iconst 0, 1) := by decide +kernel
theorem dX1_kindOfFirst_42 : decode cX1_kindOfFirst 42 = .ok (.ireturn, 1) := by decide +kernel
theorem dX1_breakCell_0 : decode cX1_breakCell 0 = .ok (.aload_n 0, 1) := by decide +kernel
theorem dX1_breakCell_1 : decode cX1_breakCell 1 = .ok (.getfield 12, 3) := by decide +kernel
theorem dX1_breakCell_4 : decode cX1_breakCell 4 = .ok (.getfield 124, 3) := by decide +kernel
theorem dX1_breakCell_7 : decode cX1_breakCell 7 = .ok (.iconst 0, 1) := by decide +kernel
theorem dX1_breakCell_8 : decode cX1_breakCell 8 = .ok (.iaload, 1) := by decide +kernel
theorem dX1_breakCell_9 : decode cX1_breakCell 9 = .ok (.istore 5, 2) := by decide +kernel
theorem dX1_breakCell_11 : decode cX1_breakCell 11 = .ok (.iload 5, 2) := by decide +kernel
theorem dX1_breakCell_13 : decode cX1_breakCell 13 = .ok (.bipush 60, 2) := by decide +kernel
theorem dX1_breakCell_15 : decode cX1_breakCell 15 = .ok (.if_icmp .lt 4, 3) := by decide +kernel
theorem dX1_breakCell_18 : decode cX1_breakCell 18 = .ok (.return_, 1) := by decide +kernel
theorem dX1_breakCell_19 : decode cX1_breakCell 19 = .ok (.aload_n 0, 1) := by decide +kernel
theorem dX1_breakCell_20 : decode cX1_breakCell 20 = .ok (.getfield 12, 3) := by decide +kernel
theorem dX1_breakCell_23 : decode cX1_breakCell 23 = .ok (.getfield 179, 3) := by decide +kernel
theorem dX1_breakCell_26 : decode cX1_breakCell 26 = .ok (.iconst 0, 1) := by decide +kernel
theorem dX1_breakCell_27 : decode cX1_breakCell 27 = .ok (.iload 5, 2) := by decide +kernel
theorem dX1_breakCell_29 : decode cX1_breakCell 29 = .ok (.iadd, 1) := by decide +kernel
theorem dX1_breakCell_30 : decode cX1_breakCell 30 = .ok (.iload_n 1, 1) := by decide +kernel
theorem dX1_breakCell_31 : decode cX1_breakCell 31 = .ok (.iastore, 1) := by decide +kernel
theorem dX1_breakCell_32 : decode cX1_breakCell 32 = .ok (.aload_n 0, 1) := by decide +kernel
theorem dX1_breakCell_33 : decode cX1_breakCell 33 = .ok (.getfield 12, 3) := by decide +kernel
theorem dX1_breakCell_36 : decode cX1_breakCell 36 = .ok (.getfield 179, 3) := by decide +kernel
theorem dX1_breakCell_39 : decode cX1_breakCell 39 = .ok (.bipush 60, 2) := by decide +kernel
theorem dX1_breakCell_41 : decode cX1_breakCell 41 = .ok (.iload 5, 2) := by decide +kernel
theorem dX1_breakCell_43 : decode cX1_breakCell 43 = .ok (.iadd, 1) := by decide +kernel
theorem dX1_breakCell_44 : decode cX1_breakCell 44 = .ok (.iload_n 2, 1) := by decide +kernel
theorem dX1_breakCell_45 : decode cX1_breakCell 45 = .ok (.iastore, 1) := by decide +kernel
theorem dX1_breakCell_46 : decode cX1_breakCell 46 = .ok (.aload_n 0, 1) := by decide +kernel
theorem dX1_breakCell_47 : decode cX1_breakCell 47 = .ok (.getfield 12, 3) := by decide +kernel
theorem dX1_breakCell_50 : decode cX1_breakCell 50 = .ok (.getfield 179, 3) := by decide +kernel
theorem dX1_breakCell_53 : decode cX1_breakCell 53 = .ok (.bipush 120, 2) := by decide +kernel
theorem dX1_breakCell_55 : decode cX1_breakCell 55 = .ok (.iload 5, 2) := by decide +kernel
theorem dX1_breakCell_57 : decode cX1_breakCell 57 = .ok (.iadd, 1) := by decide +kernel
theorem dX1_breakCell_58 : decode cX1_breakCell 58 = .ok (.iload_n 3, 1) := by decide +kernel
theorem dX1_breakCell_59 : decode cX1_breakCell 59 = .ok (.iastore, 1) := by decide +kernel
theorem dX1_breakCell_60 : decode cX1_breakCell 60 = .ok (.aload_n 0, 1) := by decide +kernel
theorem dX1_breakCell_61 : decode cX1_breakCell 61 = .ok (.getfield 12, 3) := by decide +kernel
theorem dX1_breakCell_64 : decode cX1_breakCell 64 = .ok (.getfield 179, 3) := by decide +kernel
theorem dX1_breakCell_67 : decode cX1_breakCell 67 = .ok (.sipush 180, 3) := by decide +kernel
theorem dX1_breakCell_70 : decode cX1_breakCell 70 = .ok (.iload 5, 2) := by decide +kernel
theorem dX1_breakCell_72 : decode cX1_breakCell 72 = .ok (.iadd, 1) := by decide +kernel
theorem dX1_breakCell_73 : decode cX1_breakCell 73 = .ok (.iload 4, 2) := by decide +kernel
theorem dX1_breakCell_75 : decode cX1_breakCell 75 = .ok (.iastore, 1) := by decide +kernel
theorem dX1_breakCell_76 : decode cX1_breakCell 76 = .ok (.aload_n 0, 1) := by decide +kernel
theorem dX1_breakCell_77 : decode cX1_breakCell 77 = .ok (.getfield 12, 3) := by decide +kernel
theorem dX1_breakCell_80 : decode cX1_breakCell 80 = .ok (.getfield 124, 3) := by decide +kernel
theorem dX1_breakCell_83 : decode cX1_breakCell 83 = .ok (.iconst 0, 1) := by decide +kernel
theorem dX1_breakCell_84 : decode cX1_breakCell 84 = .ok (.dup2, 1) := by decide +kernel
theorem dX1_breakCell_85 : decode cX1_breakCell 85 = .ok (.iaload, 1) := by decide +kernel
theorem dX1_breakCell_86 : decode cX1_breakCell 86 = .ok (.iconst 1, 1) := by decide +kernel
theorem dX1_breakCell_87 : decode cX1_breakCell 87 = .ok (.iadd, 1) := by decide +kernel
theorem dX1_breakCell_88 : decode cX1_breakCell 88 = .ok (.iastore, 1) := by decide +kernel
theorem dX1_breakCell_89 : decode cX1_breakCell 89 = .ok (.aload_n 0, 1) := by decide +kernel
theorem dX1_breakCell_90 : decode cX1_breakCell 90 = .ok (.getfield 39, 3) := by decide +kernel
theorem dX1_breakCell_93 : decode cX1_breakCell 93 = .ok (.iload_n 1, 1) := by decide +kernel
theorem dX1_breakCell_94 : decode cX1_breakCell 94 = .ok (.iconst 1, 1) := by decide +kernel
theorem dX1_breakCell_95 : decode cX1_breakCell 95 = .ok (.iastore, 1) := by decide +kernel
theorem dX1_breakCell_96 : decode cX1_breakCell 96 = .ok (.ldc 182, 2) := by decide +kernel
theorem dX1_breakCell_98 : decode cX1_breakCell 98 = .ok (.iload 4, 2) := by decide +kernel
theorem dX1_breakCell_100 : decode cX1_breakCell 100 = .ok (.aload_n 0, 1) := by decide +kernel
theorem dX1_breakCell_101 : decode cX1_breakCell 101 = .ok (.getfield 28, 3) := by decide +kernel
theorem dX1_breakCell_104 : decode cX1_breakCell 104 = .ok (.getfield 66, 3) := by decide +kernel
theorem dX1_breakCell_107 : decode cX1_breakCell 107 = .ok (.iconst 0, 1) := by decide +kernel
theorem dX1_breakCell_108 : decode cX1_breakCell 108 = .ok (.iaload, 1) := by decide +kernel
theorem dX1_breakCell_109 : decode cX1_breakCell 109 = .ok (.imul, 1) := by decide +kernel
theorem dX1_breakCell_110 : decode cX1_breakCell 110 = .ok (.bipush 100, 2) := by decide +kernel
theorem dX1_breakCell_112 : decode cX1_breakCell 112 = .ok (.idiv, 1) := by decide +kernel
theorem dX1_breakCell_113 : decode cX1_breakCell 113 = .ok (.invokestatic 87, 3) := by decide +kernel
theorem dX1_breakCell_116 : decode cX1_breakCell 116 = .ok (.istore 6, 2) := by decide +kernel
theorem dX1_breakCell_118 : decode cX1_breakCell 118 = .ok (.aload_n 0, 1) := by decide +kernel
theorem dX1_breakCell_119 : decode cX1_breakCell 119 = .ok (.iload_n 1, 1) := by decide +kernel
theorem dX1_breakCell_120 : decode cX1_breakCell 120 = .ok (.iconst 0, 1) := by decide +kernel
theorem dX1_breakCell_121 : decode cX1_breakCell 121 = .ok (.iload_n 2, 1) := by decide +kernel
theorem dX1_breakCell_122 : decode cX1_breakCell 122 = .ok (.iload 6, 2) := by decide +kernel
theorem dX1_breakCell_124 : decode cX1_breakCell 124 = .ok (.iconst 0, 1) := by decide +kernel
theorem dX1_breakCell_125 : decode cX1_breakCell 125 = .ok (.invokevirtual 183, 3) := by decide +kernel
theorem dX1_breakCell_128 : decode cX1_breakCell 128 = .ok (.aload_n 0, 1) := by decide +kernel
theorem dX1_breakCell_129 : decode cX1_breakCell 129 = .ok (.iload_n 1, 1) := by decide +kernel
theorem dX1_breakCell_130 : decode cX1_breakCell 130 = .ok (.iconst 1, 1) := by decide +kernel
theorem dX1_breakCell_131 : decode cX1_breakCell 131 = .ok (.iload_n 2, 1) := by decide +kernel
theorem dX1_breakCell_132 : decode cX1_breakCell 132 = .ok (.iload 6, 2) := by decide +kernel
theorem dX1_breakCell_134 : decode cX1_breakCell 134 = .ok (.iconst 0, 1) := by decide +kernel
theorem dX1_breakCell_135 : decode cX1_breakCell 135 = .ok (.invokevirtual 183, 3) := by decide +kernel
theorem dX1_breakCell_138 : decode cX1_breakCell 138 = .ok (.return_, 1) := by decide +kernel
theorem dX1_beginWave_0 : decode cX1_beginWave 0 = .ok (.aload_n 0, 1) := by decide +kernel
theorem dX1_beginWave_1 : decode cX1_beginWave 1 = .ok (.getfield 12, 3) := by decide +kernel
theorem dX1_beginWave_4 : decode cX1_beginWave 4 = .ok (.getfield 124, 3) := by decide +kernel
theorem dX1_beginWave_7 : decode cX1_beginWave 7 = .ok (.iconst 2, 1) := by decide +kernel
theorem dX1_beginWave_8 : decode cX1_beginWave 8 = .ok (.iaload, 1) := by decide +kernel
theorem dX1_beginWave_9 : decode cX1_beginWave 9 = .ok (.istore 6, 2) := by decide +kernel
theorem dX1_beginWave_11 : decode cX1_beginWave 11 = .ok (.iload 6, 2) := by decide +kernel
theorem dX1_beginWave_13 : decode cX1_beginWave 13 = .ok (.sipush 200, 3) := by decide +kernel
theorem dX1_beginWave_16 : decode cX1_beginWave 16 = .ok (.if_icmp .lt 4, 3) := by decide +kernel
theorem dX1_beginWave_19 : decode cX1_beginWave 19 = .ok (.return_, 1) := by decide +kernel
theorem dX1_beginWave_20 : decode cX1_beginWave 20 = .ok (.aload_n 0, 1) := by decide +kernel
theorem dX1_beginWave_21 : decode cX1_beginWave 21 = .ok (.getfield 12, 3) := by decide +kernel
theorem dX1_beginWave_24 : decode cX1_beginWave 24 = .ok (.getfield 187, 3) := by decide +kernel
theorem dX1_beginWave_27 : decode cX1_beginWave 27 = .ok (.iconst 0, 1) := by decide +kernel
theorem dX1_beginWave_28 : decode cX1_beginWave 28 = .ok (.iload 6, 2) := by decide +kernel
theorem dX1_beginWave_30 : decode cX1_beginWave 30 = .ok (.iadd, 1) := by decide +kernel
theorem dX1_beginWave_31 : decode cX1_beginWave 31 = .ok (.iload_n 1, 1) := by decide +kernel
theorem dX1_beginWave_32 : decode cX1_beginWave 32 = .ok (.iastore, 1) := by decide +kernel
theorem dX1_beginWave_33 : decode cX1_beginWave 33 = .ok (.aload_n 0, 1) := by decide +kernel
theorem dX1_beginWave_34 : decode cX1_beginWave 34 = .ok (.getfield 12, 3) := by decide +kernel
theorem dX1_beginWave_37 : decode cX1_beginWave 37 = .ok (.getfield 187, 3) := by decide +kernel
theorem dX1_beginWave_40 : decode cX1_beginWave 40 = .ok (.sipush 200, 3) := by decide +kernel
theorem dX1_beginWave_43 : decode cX1_beginWave 43 = .ok (.iload 6, 2) := by decide +kernel
theorem dX1_beginWave_45 : decode cX1_beginWave 45 = .ok (.iadd, 1) := by decide +kernel
theorem dX1_beginWave_46 : decode cX1_beginWave 46 = .ok (.iload_n 2, 1) := by decide +kernel
theorem dX1_beginWave_47 : decode cX1_beginWave 47 = .ok (.iastore, 1) := by decide +kernel
theorem dX1_beginWave_48 : decode cX1_beginWave 48 = .ok (.aload_n 0, 1) := by decide +kernel
theorem dX1_beginWave_49 : decode cX1_beginWave 49 = .ok (.getfield 12, 3) := by decide +kernel
theorem dX1_beginWave_52 : decode cX1_beginWave 52 = .ok (.getfield 187, 3) := by decide +kernel
theorem dX1_beginWave_55 : decode cX1_beginWave 55 = .ok (.sipush 400, 3) := by decide +kernel
theorem dX1_beginWave_58 : decode cX1_beginWave 58 = .ok (.iload 6, 2) := by decide +kernel
theorem dX1_beginWave_60 : decode cX1_beginWave 60 = .ok (.iadd, 1) := by decide +kernel
theorem dX1_beginWave_61 : decode cX1_beginWave 61 = .ok (.iload_n 3, 1) := by decide +kernel
theorem dX1_beginWave_62 : decode cX1_beginWave 62 = .ok (.iastore, 1) := by decide +kernel
theorem dX1_beginWave_63 : decode cX1_beginWave 63 = .ok (.aload_n 0, 1) := by decide +kernel
theorem dX1_beginWave_64 : decode cX1_beginWave 64 = .ok (.getfield 12, 3) := by decide +kernel
theorem dX1_beginWave_67 : decode cX1_beginWave 67 = .ok (.getfield 187, 3) := by decide +kernel
theorem dX1_beginWave_70 : decode cX1_beginWave 70 = .ok (.sipush 600, 3) := by decide +kernel
theorem dX1_beginWave_73 : decode cX1_beginWave 73 = .ok (.iload 6, 2) := by decide +kernel
theorem dX1_beginWave_75 : decode cX1_beginWave 75 = .ok (.iadd, 1) := by decide +kernel
theorem dX1_beginWave_76 : decode cX1_beginWave 76 = .ok (.iload 4, 2) := by decide +kernel
theorem dX1_beginWave_78 : decode cX1_beginWave 78 = .ok (.iastore, 1) := by decide +kernel
theorem dX1_beginWave_79 : decode cX1_beginWave 79 = .ok (.aload_n 0, 1) := by decide +kernel
theorem dX1_beginWave_80 : decode cX1_beginWave 80 = .ok (.getfield 12, 3) := by decide +kernel
theorem dX1_beginWave_83 : decode cX1_beginWave 83 = .ok (.getfield 187, 3) := by decide +kernel
theorem dX1_beginWave_86 : decode cX1_beginWave 86 = .ok (.sipush 800, 3) := by decide +kernel
theorem dX1_beginWave_89 : decode cX1_beginWave 89 = .ok (.iload 6, 2) := by decide +kernel
theorem dX1_beginWave_91 : decode cX1_beginWave 91 = .ok (.iadd, 1) := by decide +kernel
theorem dX1_beginWave_92 : decode cX1_beginWave 92 = .ok (.iload 5, 2) := by decide +kernel
theorem dX1_beginWave_94 : decode cX1_beginWave 94 = .ok (.iastore, 1) := by decide +kernel
theorem dX1_beginWave_95 : decode cX1_beginWave 95 = .ok (.aload_n 0, 1) := by decide +kernel
theorem dX1_beginWave_96 : decode cX1_beginWave 96 = .ok (.getfield 12, 3) := by decide +kernel
theorem dX1_beginWave_99 : decode cX1_beginWave 99 = .ok (.getfield 187, 3) := by decide +kernel
theorem dX1_beginWave_102 : decode cX1_beginWave 102 = .ok (.sipush 1000, 3) := by decide +kernel
theorem dX1_beginWave_105 : decode cX1_beginWave 105 = .ok (.iload 6, 2) := by decide +kernel
theorem dX1_beginWave_107 : decode cX1_beginWave 107 = .ok (.iadd, 1) := by decide +kernel
theorem dX1_beginWave_108 : decode cX1_beginWave 108 = .ok (.iconst 0, 1) := by decide +kernel
theorem dX1_beginWave_109 : decode cX1_beginWave 109 = .ok (.iastore, 1) := by decide +kernel
theorem dX1_beginWave_110 : decode cX1_beginWave 110 = .ok (.aload_n 0, 1) := by decide +kernel
theorem dX1_beginWave_111 : decode cX1_beginWave 111 = .ok (.getfield 12, 3) := by decide +kernel
theorem dX1_beginWave_114 : decode cX1_beginWave 114 = .ok (.getfield 124, 3) := by decide +kernel
theorem dX1_beginWave_117 : decode cX1_beginWave 117 = .ok (.iconst 2, 1) := by decide +kernel
theorem dX1_beginWave_118 : decode cX1_beginWave 118 = .ok (.dup2, 1) := by decide +kernel
theorem dX1_beginWave_119 : decode cX1_beginWave 119 = .ok (.iaload, 1) := by decide +kernel
theorem dX1_beginWave_120 : decode cX1_beginWave 120 = .ok (.iconst 1, 1) := by decide +kernel
theorem dX1_beginWave_121 : decode cX1_beginWave 121 = .ok (.iadd, 1) := by decide +kernel
theorem dX1_beginWave_122 : decode cX1_beginWave 122 = .ok (.iastore, 1) := by decide +kernel
theorem dX1_beginWave_123 : decode cX1_beginWave 123 = .ok (.aload_n 0, 1) := by decide +kernel
theorem dX1_beginWave_124 : decode cX1_beginWave 124 = .ok (.getfield 48, 3) := by decide +kernel
theorem dX1_beginWave_127 : decode cX1_beginWave 127 = .ok (.iload 6, 2) := by decide +kernel
theorem dX1_beginWave_129 : decode cX1_beginWave 129 = .ok (.iload_n 1, 1) := by decide +kernel
theorem dX1_beginWave_130 : decode cX1_beginWave 130 = .ok (.iastore, 1) := by decide +kernel
theorem dX1_beginWave_131 : decode cX1_beginWave 131 = .ok (.aload_n 0, 1) := by decide +kernel
theorem dX1_beginWave_132 : decode cX1_beginWave 132 = .ok (.getfield 51, 3) := by decide +kernel
theorem dX1_beginWave_135 : decode cX1_beginWave 135 = .ok (.iload 6, 2) := by decide +kernel
theorem dX1_beginWave_137 : decode cX1_beginWave 137 = .ok (.iload 4, 2) := by decide +kernel
theorem dX1_beginWave_139 : decode cX1_beginWave 139 = .ok (.iastore, 1) := by decide +kernel
theorem dX1_beginWave_140 : decode cX1_beginWave 140 = .ok (.aload_n 0, 1) := by decide +kernel
theorem dX1_beginWave_141 : decode cX1_beginWave 141 = .ok (.getfield 45, 3) := by decide +kernel
theorem dX1_beginWave_144 : decode cX1_beginWave 144 = .ok (.aload_n 0, 1) := by decide +kernel
theorem dX1_beginWave_145 : decode cX1_beginWave 145 = .ok (.getfield 152, 3) := by decide +kernel
theorem dX1_beginWave_148 : decode cX1_beginWave 148 = .ok (.iload 6, 2) := by decide +kernel
theorem dX1_beginWave_150 : decode cX1_beginWave 150 = .ok (.iastore, 1) := by decide +kernel
theorem dX1_beginWave_151 : decode cX1_beginWave 151 = .ok (.aload_n 0, 1) := by decide +kernel
theorem dX1_beginWave_152 : decode cX1_beginWave 152 = .ok (.dup, 1) := by decide +kernel
theorem dX1_beginWave_153 : decode cX1_beginWave 153 = .ok (.getfield 152, 3) := by decide +kernel
theorem dX1_beginWave_156 : decode cX1_beginWave 156 = .ok (.iconst 1, 1) := by decide +kernel
theorem dX1_beginWave_157 : decode cX1_beginWave 157 = .ok (.iadd, 1) := by decide +kernel
theorem dX1_beginWave_158 : decode cX1_beginWave 158 = .ok (.putfield 152, 3) := by decide +kernel
theorem dX1_beginWave_161 : decode cX1_beginWave 161 = .ok (.return_, 1) := by decide +kernel
theorem dX1_moveAll_0 : decode cX1_moveAll 0 = .ok (.aload_n 0, 1) := by decide +kernel
theorem dX1_moveAll_1 : decode cX1_moveAll 1 = .ok (.getfield 152, 3) := by decide +kernel
theorem dX1_moveAll_4 : decode cX1_moveAll 4 = .ok (.istore_n 2, 1) := by decide +kernel
theorem dX1_moveAll_5 : decode cX1_moveAll 5 = .ok (.iconst 0, 1) := by decide +kernel
theorem dX1_moveAll_6 : decode cX1_moveAll 6 = .ok (.istore_n 3, 1) := by decide +kernel
theorem dX1_moveAll_7 : decode cX1_moveAll 7 = .ok (.iconst 0, 1) := by decide +kernel
theorem dX1_moveAll_8 : decode cX1_moveAll 8 = .ok (.istore 4, 2) := by decide +kernel
theorem dX1_moveAll_10 : decode cX1_moveAll 10 = .ok (.iload 4, 2) := by decide +kernel
theorem dX1_moveAll_12 : decode cX1_moveAll 12 = .ok (.iload_n 2, 1) := by decide +kernel
theorem dX1_moveAll_13 : decode cX1_moveAll 13 = .ok (.if_icmp .ge 39, 3) := by decide +kernel
theorem dX1_moveAll_16 : decode cX1_moveAll 16 = .ok (.aload_n 0, 1) := by decide +kernel
theorem dX1_moveAll_17 : decode cX1_moveAll 17 = .ok (.getfield 45, 3) := by decide +kernel
theorem dX1_moveAll_20 : decode cX1_moveAll 20 = .ok (.iload 4, 2) := by decide +kernel
theorem dX1_moveAll_22 : decode cX1_moveAll 22 = .ok (.iaload, 1) := by decide +kernel
theorem dX1_moveAll_23 : decode cX1_moveAll 23 = .ok (.istore 5, 2) := by decide +kernel
theorem dX1_moveAll_25 : decode cX1_moveAll 25 = .ok (.aload_n 0, 1) := by decide +kernel
theorem dX1_moveAll_26 : decode cX1_moveAll 26 = .ok (.iload 5, 2) := by decide +kernel
theorem dX1_moveAll_28 : decode cX1_moveAll 28 = .ok (.iload_n 1, 1) := by decide +kernel
theorem dX1_moveAll_29 : decode cX1_moveAll 29 = .ok (.invokevirtual 190, 3) := by decide +kernel
theorem dX1_moveAll_32 : decode cX1_moveAll 32 = .ok (.ifCond .eq 14, 3) := by decide +kernel
theorem dX1_moveAll_35 : decode cX1_moveAll 35 = .ok (.aload_n 0, 1) := by decide +kernel
theorem dX1_moveAll_36 : decode cX1_moveAll 36 = .ok (.getfield 45, 3) := by decide +kernel
theorem dX1_moveAll_39 : decode cX1_moveAll 39 = .ok (.iload_n 3, 1) := by decide +kernel
theorem dX1_moveAll_40 : decode cX1_moveAll 40 = .ok (.iload 5, 2) := by decide +kernel
theorem dX1_moveAll_42 : decode cX1_moveAll 42 = .ok (.iastore, 1) := by decide +kernel
theorem dX1_moveAll_43 : decode cX1_moveAll 43 = .ok (.iinc 3 1, 3) := by decide +kernel
theorem dX1_moveAll_46 : decode cX1_moveAll 46 = .ok (.iinc 4 1, 3) := by decide +kernel
theorem dX1_moveAll_49 : decode cX1_moveAll 49 = .ok (.goto (-39), 3) := by decide +kernel
theorem dX1_moveAll_52 : decode cX1_moveAll 52 = .ok (.iload_n 2, 1) := by decide +kernel
theorem dX1_moveAll_53 : decode cX1_moveAll 53 = .ok (.istore 4, 2) := by decide +kernel
theorem dX1_moveAll_55 : decode cX1_moveAll 55 = .ok (.iload 4, 2) := by decide +kernel
theorem dX1_moveAll_57 : decode cX1_moveAll 57 = .ok (.aload_n 0, 1) := by decide +kernel
theorem dX1_moveAll_58 : decode cX1_moveAll 58 = .ok (.getfield 152, 3) := by decide +kernel
theorem dX1_moveAll_61 : decode cX1_moveAll 61 = .ok (.if_icmp .ge 25, 3) := by decide +kernel
theorem dX1_moveAll_64 : decode cX1_moveAll 64 = .ok (.aload_n 0, 1) := by decide +kernel
theorem dX1_moveAll_65 : decode cX1_moveAll 65 = .ok (.getfield 45, 3) := by decide +kernel
theorem dX1_moveAll_68 : decode cX1_moveAll 68 = .ok (.iload_n 3, 1) := by decide +kernel
theorem dX1_moveAll_69 : decode cX1_moveAll 69 = .ok (.aload_n 0, 1) := by decide +kernel
theorem dX1_moveAll_70 : decode cX1_moveAll 70 = .ok (.getfield 45, 3) := by decide +kernel
theorem dX1_moveAll_73 : decode cX1_moveAll 73 = .ok (.iload 4, 2) := by decide +kernel
theorem dX1_moveAll_75 : decode cX1_moveAll 75 = .ok (.iaload, 1) := by decide +kernel
theorem dX1_moveAll_76 : decode cX1_moveAll 76 = .ok (.iastore, 1) := by decide +kernel
theorem dX1_moveAll_77 : decode cX1_moveAll 77 = .ok (.iinc 3 1, 3) := by decide +kernel
theorem dX1_moveAll_80 : decode cX1_moveAll 80 = .ok (.iinc 4 1, 3) := by decide +kernel
theorem dX1_moveAll_83 : decode cX1_moveAll 83 = .ok (.goto (-28), 3) := by decide +kernel
theorem dX1_moveAll_86 : decode cX1_moveAll 86 = .ok (.aload_n 0, 1) := by decide +kernel
theorem dX1_moveAll_87 : decode cX1_moveAll 87 = .ok (.iload_n 3, 1) := by decide +kernel
theorem dX1_moveAll_88 : decode cX1_moveAll 88 = .ok (.putfield 152, 3) := by decide +kernel
theorem dX1_moveAll_91 : decode cX1_moveAll 91 = .ok (.return_, 1) := by decide +kernel
theorem dX1_goesOn_0 : decode cX1_goesOn 0 = .ok (.aload_n 0, 1) := by decide +kernel
theorem dX1_goesOn_1 : decode cX1_goesOn 1 = .ok (.getfield 12, 3) := by decide +kernel
theorem dX1_goesOn_4 : decode cX1_goesOn 4 = .ok (.getfield 187, 3) := by decide +kernel
theorem dX1_goesOn_7 : decode cX1_goesOn 7 = .ok (.sipush 200, 3) := by decide +kernel
theorem dX1_goesOn_10 : decode cX1_goesOn 10 = .ok (.iload_n 1, 1) := by decide +kernel
theorem dX1_goesOn_11 : decode cX1_goesOn 11 = .ok (.iadd, 1) := by decide +kernel
theorem dX1_goesOn_12 : decode cX1_goesOn 12 = .ok (.iaload, 1) := by decide +kernel
theorem dX1_goesOn_13 : decode cX1_goesOn 13 = .ok (.ifCond .ne 7, 3) := by decide +kernel
theorem dX1_goesOn_16 : decode cX1_goesOn 16 = .ok (.iconst 1, 1) := by decide +kernel
theorem dX1_goesOn_17 : decode cX1_goesOn 17 = .ok (.goto 4, 3) := by decide +kernel
theorem dX1_goesOn_20 : decode cX1_goesOn 20 = .ok (.iconst 0, 1) := by decide +kernel
theorem dX1_goesOn_21 : decode cX1_goesOn 21 = .ok (.istore_n 3, 1) := by decide +kernel
theorem dX1_goesOn_22 : decode cX1_goesOn 22 = .ok (.aload_n 0, 1) := by decide +kernel
theorem dX1_goesOn_23 : decode cX1_goesOn 23 = .ok (.getfield 12, 3) := by decide +kernel
theorem dX1_goesOn_26 : decode cX1_goesOn 26 = .ok (.getfield 187, 3) := by decide +kernel
theorem dX1_goesOn_29 : decode cX1_goesOn 29 = .ok (.sipush 800, 3) := by decide +kernel
theorem dX1_goesOn_32 : decode cX1_goesOn 32 = .ok (.iload_n 1, 1) := by decide +kernel
theorem dX1_goesOn_33 : decode cX1_goesOn 33 = .ok (.iadd, 1) := by decide +kernel
theorem dX1_goesOn_34 : decode cX1_goesOn 34 = .ok (.iaload, 1) := by decide +kernel
theorem dX1_goesOn_35 : decode cX1_goesOn 35 = .ok (.iconst 1, 1) := by decide +kernel
theorem dX1_goesOn_36 : decode cX1_goesOn 36 = .ok (.if_icmp .ne 7, 3) := by decide +kernel
theorem dX1_goesOn_39 : decode cX1_goesOn 39 = .ok (.iconst 1, 1) := by decide +kernel
theorem dX1_goesOn_40 : decode cX1_goesOn 40 = .ok (.goto 4, 3) := by decide +kernel
theorem dX1_goesOn_43 : decode cX1_goesOn 43 = .ok (.iconst 0, 1) := by decide +kernel
theorem dX1_goesOn_44 : decode cX1_goesOn 44 = .ok (.istore 4, 2) := by decide +kernel
theorem dX1_goesOn_46 : decode cX1_goesOn 46 = .ok (.iload_n 3, 1) := by decide +kernel
theorem dX1_goesOn_47 : decode cX1_goesOn 47 = .ok (.ifCond .eq 14, 3) := by decide +kernel
theorem dX1_goesOn_50 : decode cX1_goesOn 50 = .ok (.aload_n 0, 1) := by decide +kernel
theorem dX1_goesOn_51 : decode cX1_goesOn 51 = .ok (.getfield 48, 3) := by decide +kernel
theorem dX1_goesOn_54 : decode cX1_goesOn 54 = .ok (.iload_n 1, 1) := by decide +kernel
theorem dX1_goesOn_55 : decode cX1_goesOn 55 = .ok (.iaload, 1) := by decide +kernel
theorem dX1_goesOn_56 : decode cX1_goesOn 56 = .ok (.iconst 1, 1) := by decide +kernel
theorem dX1_goesOn_57 : decode cX1_goesOn 57 = .ok (.isub, 1) := by decide +kernel
theorem dX1_goesOn_58 : decode cX1_goesOn 58 = .ok (.goto 11, 3) := by decide +kernel
theorem dX1_goesOn_61 : decode cX1_goesOn 61 = .ok (.aload_n 0, 1) := by decide +kernel
theorem dX1_goesOn_62 : decode cX1_goesOn 62 = .ok (.getfield 48, 3) := by decide +kernel
theorem dX1_goesOn_65 : decode cX1_goesOn 65 = .ok (.iload_n 1, 1) := by decide +kernel
theorem dX1_goesOn_66 : decode cX1_goesOn 66 = .ok (.iaload, 1) := by decide +kernel
theorem dX1_goesOn_67 : decode cX1_goesOn 67 = .ok (.iconst 1, 1) := by decide +kernel
theorem dX1_goesOn_68 : decode cX1_goesOn 68 = .ok (.iadd, 1) := by decide +kernel
theorem dX1_goesOn_69 : decode cX1_goesOn 69 = .ok (.istore 5, 2) := by decide +kernel
theorem dX1_goesOn_71 : decode cX1_goesOn 71 = .ok (.aload_n 0, 1) := by decide +kernel
theorem dX1_goesOn_72 : decode cX1_goesOn 72 = .ok (.getfield 48, 3) := by decide +kernel
theorem dX1_goesOn_75 : decode cX1_goesOn 75 = .ok (.iload_n 1, 1) := by decide +kernel
theorem dX1_goesOn_76 : decode cX1_goesOn 76 = .ok (.iload 5, 2) := by decide +kernel
theorem dX1_goesOn_78 : decode cX1_goesOn 78 = .ok (.iastore, 1) := by decide +kernel
theorem dX1_goesOn_79 : decode cX1_goesOn 79 = .ok (.iload 5, 2) := by decide +kernel
theorem dX1_goesOn_81 : decode cX1_goesOn 81 = .ok (.ifCond .lt 26, 3) := by decide +kernel
theorem dX1_goesOn_84 : decode cX1_goesOn 84 = .ok (.iload 5, 2) := by decide +kernel
theorem dX1_goesOn_86 : decode cX1_goesOn 86 = .ok (.aload_n 0, 1) := by decide +kernel
theorem dX1_goesOn_87 : decode cX1_goesOn 87 = .ok (.getfield 21, 3) := by decide +kernel
theorem dX1_goesOn_90 : decode cX1_goesOn 90 = .ok (.getfield 84, 3) := by decide +kernel
theorem dX1_goesOn_93 : decode cX1_goesOn 93 = .ok (.if_icmp .ge 14, 3) := by decide +kernel
theorem dX1_goesOn_96 : decode cX1_goesOn 96 = .ok (.aload_n 0, 1) := by decide +kernel
theorem dX1_goesOn_97 : decode cX1_goesOn 97 = .ok (.getfield 39, 3) := by decide +kernel
theorem dX1_goesOn_100 : decode cX1_goesOn 100 = .ok (.iload 5, 2) := by decide +kernel
theorem dX1_goesOn_102 : decode cX1_goesOn 102 = .ok (.iaload, 1) := by decide +kernel
theorem dX1_goesOn_103 : decode cX1_goesOn 103 = .ok (.iconst 1, 1) := by decide +kernel
theorem dX1_goesOn_104 : decode cX1_goesOn 104 = .ok (.if_icmp .ne 59, 3) := by decide +kernel
theorem dX1_goesOn_107 : decode cX1_goesOn 107 = .ok (.iload 4, 2) := by decide +kernel
theorem dX1_goesOn_109 : decode cX1_goesOn 109 = .ok (.ifCond .eq 7, 3) := by decide +kernel
theorem dX1_goesOn_112 : decode cX1_goesOn 112 = .ok (.iconst 0, 1) := by decide +kernel
theorem dX1_goesOn_113 : decode cX1_goesOn 113 = .ok (.goto 22, 3) := by decide +kernel
theorem dX1_goesOn_116 : decode cX1_goesOn 116 = .ok (.aload_n 0, 1) := by decide +kernel
theorem dX1_goesOn_117 : decode cX1_goesOn 117 = .ok (.getfield 51, 3) := by decide +kernel
theorem dX1_goesOn_120 : decode cX1_goesOn 120 = .ok (.iload_n 1, 1) := by decide +kernel
theorem dX1_goesOn_121 : decode cX1_goesOn 121 = .ok (.iaload, 1) := by decide +kernel
theorem dX1_goesOn_122 : decode cX1_goesOn 122 = .ok (.aload_n 0, 1) := by decide +kernel
theorem dX1_goesOn_123 : decode cX1_goesOn 123 = .ok (.getfield 28, 3) := by decide +kernel
theorem dX1_goesOn_126 : decode cX1_goesOn 126 = .ok (.getfield 66, 3) := by decide +kernel
theorem dX1_goesOn_129 : decode cX1_goesOn 129 = .ok (.iconst 5, 1) := by decide +kernel
theorem dX1_goesOn_130 : decode cX1_goesOn 130 = .ok (.iaload, 1) := by decide +kernel
theorem dX1_goesOn_131 : decode cX1_goesOn 131 = .ok (.imul, 1) := by decide +kernel
theorem dX1_goesOn_132 : decode cX1_goesOn 132 = .ok (.bipush 100, 2) := by decide +kernel
theorem dX1_goesOn_134 : decode cX1_goesOn 134 = .ok (.idiv, 1) := by decide +kernel
theorem dX1_goesOn_135 : decode cX1_goesOn 135 = .ok (.istore 6, 2) := by decide +kernel
theorem dX1_goesOn_137 : decode cX1_goesOn 137 = .ok (.iload 6, 2) := by decide +kernel
theorem dX1_goesOn_139 : decode cX1_goesOn 139 = .ok (.ifCond .le 22, 3) := by decide +kernel
theorem dX1_goesOn_142 : decode cX1_goesOn 142 = .ok (.aload_n 0, 1) := by decide +kernel
theorem dX1_goesOn_143 : decode cX1_goesOn 143 = .ok (.iload 5, 2) := by decide +kernel
theorem dX1_goesOn_145 : decode cX1_goesOn 145 = .ok (.iload_n 3, 1) := by decide +kernel
theorem dX1_goesOn_146 : decode cX1_goesOn 146 = .ok (.ifCond .eq 7, 3) := by decide +kernel
theorem dX1_goesOn_149 : decode cX1_goesOn 149 = .ok (.iconst 1, 1) := by decide +kernel
theorem dX1_goesOn_150 : decode cX1_goesOn 150 = .ok (.goto 4, 3) := by decide +kernel
theorem dX1_goesOn_153 : decode cX1_goesOn 153 = .ok (.iconst 0, 1) := by decide +kernel
theorem dX1_goesOn_154 : decode cX1_goesOn 154 = .ok (.iload_n 2, 1) := by decide +kernel
theorem dX1_goesOn_155 : decode cX1_goesOn 155 = .ok (.iload 6, 2) := by decide +kernel
theorem dX1_goesOn_157 : decode cX1_goesOn 157 = .ok (.iconst 1, 1) := by decide +kernel
theorem dX1_goesOn_158 : decode cX1_goesOn 158 = .ok (.invokevirtual 183, 3) := by decide +kernel
theorem dX1_goesOn_161 : decode cX1_goesOn 161 = .ok (.iconst 0, 1) := by decide +kernel
theorem dX1_goesOn_162 : decode cX1_goesOn 162 = .ok (.ireturn, 1) := by decide +kernel
theorem dX1_goesOn_163 : decode cX1_goesOn 163 = .ok (.aload_n 0, 1) := by decide +kernel
theorem dX1_goesOn_164 : decode cX1_goesOn 164 = .ok (.getfield 51, 3) := by decide +kernel
theorem dX1_goesOn_167 : decode cX1_goesOn 167 = .ok (.iload_n 1, 1) := by decide +kernel
theorem dX1_goesOn_168 : decode cX1_goesOn 168 = .ok (.aload_n 0, 1) := by decide +kernel
theorem dX1_goesOn_169 : decode cX1_goesOn 169 = .ok (.getfield 28, 3) := by decide +kernel
theorem dX1_goesOn_172 : decode cX1_goesOn 172 = .ok (.aload_n 0, 1) := by decide +kernel
theorem dX1_goesOn_173 : decode cX1_goesOn 173 = .ok (.getfield 21, 3) := by decide +kernel
theorem dX1_goesOn_176 : decode cX1_goesOn 176 = .ok (.getfield 194, 3) := by decide +kernel
theorem dX1_goesOn_179 : decode cX1_goesOn 179 = .ok (.iload 5, 2) := by decide +kernel
theorem dX1_goesOn_181 : decode cX1_goesOn 181 = .ok (.iaload, 1) := by decide +kernel
theorem dX1_goesOn_182 : decode cX1_goesOn 182 = .ok (.aload_n 0, 1) := by decide +kernel
theorem dX1_goesOn_183 : decode cX1_goesOn 183 = .ok (.getfield 51, 3) := by decide +kernel
theorem dX1_goesOn_186 : decode cX1_goesOn 186 = .ok (.iload_n 1, 1) := by decide +kernel
theorem dX1_goesOn_187 : decode cX1_goesOn 187 = .ok (.iaload, 1) := by decide +kernel
theorem dX1_goesOn_188 : decode cX1_goesOn 188 = .ok (.invokevirtual 197, 3) := by decide +kernel
theorem dX1_goesOn_191 : decode cX1_goesOn 191 = .ok (.iastore, 1) := by decide +kernel
theorem dX1_goesOn_192 : decode cX1_goesOn 192 = .ok (.aload_n 0, 1) := by decide +kernel
theorem dX1_goesOn_193 : decode cX1_goesOn 193 = .ok (.getfield 51, 3) := by decide +kernel
theorem dX1_goesOn_196 : decode cX1_goesOn 196 = .ok (.iload_n 1, 1) := by decide +kernel
theorem dX1_goesOn_197 : decode cX1_goesOn 197 = .ok (.iaload, 1) := by decide +kernel
theorem dX1_goesOn_198 : decode cX1_goesOn 198 = .ok (.ifCond .ne 5, 3) := by decide +kernel
theorem dX1_goesOn_201 : decode cX1_goesOn 201 = .ok (.iconst 0, 1) := by decide +kernel
theorem dX1_goesOn_202 : decode cX1_goesOn 202 = .ok (.ireturn, 1) := by decide +kernel
theorem dX1_goesOn_203 : decode cX1_goesOn 203 = .ok (.aload_n 0, 1) := by decide +kernel
theorem dX1_goesOn_204 : decode cX1_goesOn 204 = .ok (.getfield 12, 3) := by decide +kernel
theorem dX1_goesOn_207 : decode cX1_goesOn 207 = .ok (.getfield 187, 3) := by decide +kernel
theorem dX1_goesOn_210 : decode cX1_goesOn 210 = .ok (.sipush 1000, 3) := by decide +kernel
theorem dX1_goesOn_213 : decode cX1_goesOn 213 = .ok (.iload_n 1, 1) := by decide +kernel
theorem dX1_goesOn_214 : decode cX1_goesOn 214 = .ok (.iadd, 1) := by decide +kernel
theorem dX1_goesOn_215 : decode cX1_goesOn 215 = .ok (.dup2, 1) := by decide +kernel
theorem dX1_goesOn_216 : decode cX1_goesOn 216 = .ok (.iaload, 1) := by decide +kernel
theorem dX1_goesOn_217 : decode cX1_goesOn 217 = .ok (.iconst 1, 1) := by decide +kernel
theorem dX1_goesOn_218 : decode cX1_goesOn 218 = .ok (.iadd, 1) := by decide +kernel
theorem dX1_goesOn_219 : decode cX1_goesOn 219 = .ok (.iastore, 1) := by decide +kernel
theorem dX1_goesOn_220 : decode cX1_goesOn 220 = .ok (.aload_n 0, 1) := by decide +kernel
theorem dX1_goesOn_221 : decode cX1_goesOn 221 = .ok (.getfield 51, 3) := by decide +kernel
theorem dX1_goesOn_224 : decode cX1_goesOn 224 = .ok (.iload_n 1, 1) := by decide +kernel
theorem dX1_goesOn_225 : decode cX1_goesOn 225 = .ok (.iaload, 1) := by decide +kernel
theorem dX1_goesOn_226 : decode cX1_goesOn 226 = .ok (.aload_n 0, 1) := by decide +kernel
theorem dX1_goesOn_227 : decode cX1_goesOn 227 = .ok (.getfield 42, 3) := by decide +kernel
theorem dX1_goesOn_230 : decode cX1_goesOn 230 = .ok (.iload 5, 2) := by decide +kernel
theorem dX1_goesOn_232 : decode cX1_goesOn 232 = .ok (.iaload, 1) := by decide +kernel
theorem dX1_goesOn_233 : decode cX1_goesOn 233 = .ok (.iconst 1, 1) := by decide +kernel
theorem dX1_goesOn_234 : decode cX1_goesOn 234 = .ok (.if_icmp .ne 7, 3) := by decide +kernel
theorem dX1_goesOn_237 : decode cX1_goesOn 237 = .ok (.iconst 0, 1) := by decide +kernel
theorem dX1_goesOn_238 : decode cX1_goesOn 238 = .ok (.goto 10, 3) := by decide +kernel
theorem dX1_goesOn_241 : decode cX1_goesOn 241 = .ok (.aload_n 0, 1) := by decide +kernel
theorem dX1_goesOn_242 : decode cX1_goesOn 242 = .ok (.getfield 36, 3) := by decide +kernel
theorem dX1_goesOn_245 : decode cX1_goesOn 245 = .ok (.iload 5, 2) := by decide +kernel
theorem dX1_goesOn_247 : decode cX1_goesOn 247 = .ok (.iaload, 1) := by decide +kernel
theorem dX1_goesOn_248 : decode cX1_goesOn 248 = .ok (.iadd, 1) := by decide +kernel
theorem dX1_goesOn_249 : decode cX1_goesOn 249 = .ok (.istore 6, 2) := by decide +kernel
theorem dX1_goesOn_251 : decode cX1_goesOn 251 = .ok (.aload_n 0, 1) := by decide +kernel
theorem dX1_goesOn_252 : decode cX1_goesOn 252 = .ok (.getfield 136, 3) := by decide +kernel
theorem dX1_goesOn_255 : decode cX1_goesOn 255 = .ok (.ifCond .ne 46, 3) := by decide +kernel
theorem dX1_goesOn_258 : decode cX1_goesOn 258 = .ok (.iload 6, 2) := by decide +kernel
theorem dX1_goesOn_260 : decode cX1_goesOn 260 = .ok (.aload_n 0, 1) := by decide +kernel
theorem dX1_goesOn_261 : decode cX1_goesOn 261 = .ok (.getfield 149, 3) := by decide +kernel
theorem dX1_goesOn_264 : decode cX1_goesOn 264 = .ok (.isub, 1) := by decide +kernel
theorem dX1_goesOn_265 : decode cX1_goesOn 265 = .ok (.aload_n 0, 1) := by decide +kernel
theorem dX1_goesOn_266 : decode cX1_goesOn 266 = .ok (.getfield 32, 3) := by decide +kernel
theorem dX1_goesOn_269 : decode cX1_goesOn 269 = .ok (.iload 5, 2) := by decide +kernel
theorem dX1_goesOn_271 : decode cX1_goesOn 271 = .ok (.iaload, 1) := by decide +kernel
theorem dX1_goesOn_272 : decode cX1_goesOn 272 = .ok (.if_icmp .le 29, 3) := by decide +kernel
theorem dX1_goesOn_275 : decode cX1_goesOn 275 = .ok (.aload_n 0, 1) := by decide +kernel
theorem dX1_goesOn_276 : decode cX1_goesOn 276 = .ok (.iload 5, 2) := by decide +kernel
theorem dX1_goesOn_278 : decode cX1_goesOn 278 = .ok (.iload_n 2, 1) := by decide +kernel
theorem dX1_goesOn_279 : decode cX1_goesOn 279 = .ok (.iload 4, 2) := by decide +kernel
theorem dX1_goesOn_281 : decode cX1_goesOn 281 = .ok (.ifCond .eq 7, 3) := by decide +kernel
theorem dX1_goesOn_284 : decode cX1_goesOn 284 = .ok (.iconst 2, 1) := by decide +kernel
theorem dX1_goesOn_285 : decode cX1_goesOn 285 = .ok (.goto 4, 3) := by decide +kernel
theorem dX1_goesOn_288 : decode cX1_goesOn 288 = .ok (.iconst 1, 1) := by decide +kernel
theorem dX1_goesOn_289 : decode cX1_goesOn 289 = .ok (.iload 6, 2) := by decide +kernel
theorem dX1_goesOn_291 : decode cX1_goesOn 291 = .ok (.aload_n 0, 1) := by decide +kernel
theorem dX1_goesOn_292 : decode cX1_goesOn 292 = .ok (.getfield 149, 3) := by decide +kernel
theorem dX1_goesOn_295 : decode cX1_goesOn 295 = .ok (.isub, 1) := by decide +kernel
theorem dX1_goesOn_296 : decode cX1_goesOn 296 = .ok (.invokevirtual 164, 3) := by decide +kernel
theorem dX1_goesOn_299 : decode cX1_goesOn 299 = .ok (.iconst 0, 1) := by decide +kernel
theorem dX1_goesOn_300 : decode cX1_goesOn 300 = .ok (.ireturn, 1) := by decide +kernel
theorem dX1_goesOn_301 : decode cX1_goesOn 301 = .ok (.aload_n 0, 1) := by decide +kernel
theorem dX1_goesOn_302 : decode cX1_goesOn 302 = .ok (.getfield 42, 3) := by decide +kernel
theorem dX1_goesOn_305 : decode cX1_goesOn 305 = .ok (.iload 5, 2) := by decide +kernel
theorem dX1_goesOn_307 : decode cX1_goesOn 307 = .ok (.iconst 1, 1) := by decide +kernel
theorem dX1_goesOn_308 : decode cX1_goesOn 308 = .ok (.iastore, 1) := by decide +kernel
theorem dX1_goesOn_309 : decode cX1_goesOn 309 = .ok (.iload 6, 2) := by decide +kernel
theorem dX1_goesOn_311 : decode cX1_goesOn 311 = .ok (.aload_n 0, 1) := by decide +kernel
theorem dX1_goesOn_312 : decode cX1_goesOn 312 = .ok (.getfield 32, 3) := by decide +kernel
theorem dX1_goesOn_315 : decode cX1_goesOn 315 = .ok (.iload 5, 2) := by decide +kernel
theorem dX1_goesOn_317 : decode cX1_goesOn 317 = .ok (.iaload, 1) := by decide +kernel
theorem dX1_goesOn_318 : decode cX1_goesOn 318 = .ok (.if_icmp .le 16, 3) := by decide +kernel
theorem dX1_goesOn_321 : decode cX1_goesOn 321 = .ok (.aload_n 0, 1) := by decide +kernel
theorem dX1_goesOn_322 : decode cX1_goesOn 322 = .ok (.getfield 12, 3) := by decide +kernel
theorem dX1_goesOn_325 : decode cX1_goesOn 325 = .ok (.getfield 124, 3) := by decide +kernel
theorem dX1_goesOn_328 : decode cX1_goesOn 328 = .ok (.iconst 3, 1) := by decide +kernel
theorem dX1_goesOn_329 : decode cX1_goesOn 329 = .ok (.dup2, 1) := by decide +kernel
theorem dX1_goesOn_330 : decode cX1_goesOn 330 = .ok (.iaload, 1) := by decide +kernel
theorem dX1_goesOn_331 : decode cX1_goesOn 331 = .ok (.iconst 1, 1) := by decide +kernel
theorem dX1_goesOn_332 : decode cX1_goesOn 332 = .ok (.iadd, 1) := by decide +kernel
theorem dX1_goesOn_333 : decode cX1_goesOn 333 = .ok (.iastore, 1) := by decide +kernel
theorem dX1_goesOn_334 : decode cX1_goesOn 334 = .ok (.iload 4, 2) := by decide +kernel
theorem dX1_goesOn_336 : decode cX1_goesOn 336 = .ok (.ifCond .ne 11, 3) := by decide +kernel
theorem dX1_goesOn_339 : decode cX1_goesOn 339 = .ok (.aload_n 0, 1) := by decide +kernel
theorem dX1_goesOn_340 : decode cX1_goesOn 340 = .ok (.iload 5, 2) := by decide +kernel
theorem dX1_goesOn_342 : decode cX1_goesOn 342 = .ok (.iload 6, 2) := by decide +kernel
theorem dX1_goesOn_344 : decode cX1_goesOn 344 = .ok (.invokevirtual 200, 3) := by decide +kernel
theorem dX1_goesOn_347 : decode cX1_goesOn 347 = .ok (.iconst 1, 1) := by decide +kernel
theorem dX1_goesOn_348 : decode cX1_goesOn 348 = .ok (.ireturn, 1) := by decide +kernel
theorem dX1_noteGreatest_0 : decode cX1_noteGreatest 0 = .ok (.iload_n 2, 1) := by decide +kernel
theorem dX1_noteGreatest_1 : decode cX1_noteGreatest 1 = .ok (.aload_n 0, 1) := by decide +kernel
theorem dX1_noteGreatest_2 : decode cX1_noteGreatest 2 = .ok (.getfield 140, 3) := by decide +kernel
theorem dX1_noteGreatest_5 : decode cX1_noteGreatest 5 = .ok (.if_icmp .gt 19, 3) := by decide +kernel
theorem dX1_noteGreatest_8 : decode cX1_noteGreatest 8 = .ok (.iload_n 2, 1) := by decide +kernel
theorem dX1_noteGreatest_9 : decode cX1_noteGreatest 9 = .ok (.aload_n 0, 1) := by decide +kernel
theorem dX1_noteGreatest_10 : decode cX1_noteGreatest 10 = .ok (.getfield 140, 3) := by decide +kernel
theorem dX1_noteGreatest_13 : decode cX1_noteGreatest 13 = .ok (.if_icmp .ne 21, 3) := by decide +kernel
theorem dX1_noteGreatest_16 : decode cX1_noteGreatest 16 = .ok (.iload_n 1, 1) := by decide +kernel
theorem dX1_noteGreatest_17 : decode cX1_noteGreatest 17 = .ok (.aload_n 0, 1) := by decide +kernel
theorem dX1_noteGreatest_18 : decode cX1_noteGreatest 18 = .ok (.getfield 143, 3) := by decide +kernel
theorem dX1_noteGreatest_21 : decode cX1_noteGreatest 21 = .ok (.if_icmp .ge 13, 3) := by decide +kernel
theorem dX1_noteGreatest_24 : decode cX1_noteGreatest 24 = .ok (.aload_n 0, 1) := by decide +kernel
theorem dX1_noteGreatest_25 : decode cX1_noteGreatest 25 = .ok (.iload_n 2, 1) := by decide +kernel
theorem dX1_noteGreatest_26 : decode cX1_noteGreatest 26 = .ok (.putfield 140, 3) := by decide +kernel
theorem dX1_noteGreatest_29 : decode cX1_noteGreatest 29 = .ok (.aload_n 0, 1) := by decide +kernel
theorem dX1_noteGreatest_30 : decode cX1_noteGreatest 30 = .ok (.iload_n 1, 1) := by decide +kernel
theorem dX1_noteGreatest_31 : decode cX1_noteGreatest 31 = .ok (.putfield 143, 3) := by decide +kernel
theorem dX1_noteGreatest_34 : decode cX1_noteGreatest 34 = .ok (.return_, 1) := by decide +kernel
theorem dX1_countCells_0 : decode cX1_countCells 0 = .ok (.iconst 0, 1) := by decide +kernel
theorem dX1_countCells_1 : decode cX1_countCells 1 = .ok (.istore_n 1, 1) := by decide +kernel
theorem dX1_countCells_2 : decode cX1_countCells 2 = .ok (.iconst 0, 1) := by decide +kernel
theorem dX1_countCells_3 : decode cX1_countCells 3 = .ok (.istore_n 2, 1) := by decide +kernel
theorem dX1_countCells_4 : decode cX1_countCells 4 = .ok (.iconst 0, 1) := by decide +kernel
theorem dX1_countCells_5 : decode cX1_countCells 5 = .ok (.istore_n 3, 1) := by decide +kernel
theorem dX1_countCells_6 : decode cX1_countCells 6 = .ok (.iconst 0, 1) := by decide +kernel
theorem dX1_countCells_7 : decode cX1_countCells 7 = .ok (.istore 4, 2) := by decide +kernel
theorem dX1_countCells_9 : decode cX1_countCells 9 = .ok (.iload 4, 2) := by decide +kernel
theorem dX1_countCells_11 : decode cX1_countCells 11 = .ok (.aload_n 0, 1) := by decide +kernel
theorem dX1_countCells_12 : decode cX1_countCells 12 = .ok (.getfield 21, 3) := by decide +kernel
theorem dX1_countCells_15 : decode cX1_countCells 15 = .ok (.getfield 84, 3) := by decide +kernel
theorem dX1_countCells_18 : decode cX1_countCells 18 = .ok (.if_icmp .ge 62, 3) := by decide +kernel
theorem dX1_countCells_21 : decode cX1_countCells 21 = .ok (.iload_n 1, 1) := by decide +kernel
theorem dX1_countCells_22 : decode cX1_countCells 22 = .ok (.aload_n 0, 1) := by decide +kernel
theorem dX1_countCells_23 : decode cX1_countCells 23 = .ok (.getfield 42, 3) := by decide +kernel
theorem dX1_countCells_26 : decode cX1_countCells 26 = .ok (.iload 4, 2) := by decide +kernel
theorem dX1_countCells_28 : decode cX1_countCells 28 = .ok (.iaload, 1) := by decide +kernel
theorem dX1_countCells_29 : decode cX1_countCells 29 = .ok (.iadd, 1) := by decide +kernel
theorem dX1_countCells_30 : decode cX1_countCells 30 = .ok (.istore_n 1, 1) := by decide +kernel
theorem dX1_countCells_31 : decode cX1_countCells 31 = .ok (.iinc 3 1, 3) := by decide +kernel
theorem dX1_countCells_34 : decode cX1_countCells 34 = .ok (.aload_n 0, 1) := by decide +kernel
theorem dX1_countCells_35 : decode cX1_countCells 35 = .ok (.getfield 39, 3) := by decide +kernel
theorem dX1_countCells_38 : decode cX1_countCells 38 = .ok (.iload 4, 2) := by decide +kernel
theorem dX1_countCells_40 : decode cX1_countCells 40 = .ok (.iaload, 1) := by decide +kernel
theorem dX1_countCells_41 : decode cX1_countCells 41 = .ok (.iconst 1, 1) := by decide +kernel
theorem dX1_countCells_42 : decode cX1_countCells 42 = .ok (.if_icmp .eq 17, 3) := by decide +kernel
theorem dX1_countCells_45 : decode cX1_countCells 45 = .ok (.iload 4, 2) := by decide +kernel
theorem dX1_countCells_47 : decode cX1_countCells 47 = .ok (.aload_n 0, 1) := by decide +kernel
theorem dX1_countCells_48 : decode cX1_countCells 48 = .ok (.getfield 21, 3) := by decide +kernel
theorem dX1_countCells_51 : decode cX1_countCells 51 = .ok (.getfield 84, 3) := by decide +kernel
theorem dX1_countCells_54 : decode cX1_countCells 54 = .ok (.iconst 1, 1) := by decide +kernel
theorem dX1_countCells_55 : decode cX1_countCells 55 = .ok (.isub, 1) := by decide +kernel
theorem dX1_countCells_56 : decode cX1_countCells 56 = .ok (.if_icmp .ne 18, 3) := by decide +kernel
theorem dX1_countCells_59 : decode cX1_countCells 59 = .ok (.aload_n 0, 1) := by decide +kernel
theorem dX1_countCells_60 : decode cX1_countCells 60 = .ok (.getfield 12, 3) := by decide +kernel
theorem dX1_countCells_63 : decode cX1_countCells 63 = .ok (.getfield 204, 3) := by decide +kernel
theorem dX1_countCells_66 : decode cX1_countCells 66 = .ok (.iload_n 2, 1) := by decide +kernel
theorem dX1_countCells_67 : decode cX1_countCells 67 = .ok (.iload_n 3, 1) := by decide +kernel
theorem dX1_countCells_68 : decode cX1_countCells 68 = .ok (.iastore, 1) := by decide +kernel
theorem dX1_countCells_69 : decode cX1_countCells 69 = .ok (.iinc 2 1, 3) := by decide +kernel
theorem dX1_countCells_72 : decode cX1_countCells 72 = .ok (.iconst 0, 1) := by decide +kernel
theorem dX1_countCells_73 : decode cX1_countCells 73 = .ok (.istore_n 3, 1) := by decide +kernel
theorem dX1_countCells_74 : decode cX1_countCells 74 = .ok (.iinc 4 1, 3) := by decide +kernel
theorem dX1_countCells_77 : decode cX1_countCells 77 = .ok (.goto (-68), 3) := by decide +kernel
theorem dX1_countCells_80 : decode cX1_countCells 80 = .ok (.aload_n 0, 1) := by decide +kernel
theorem dX1_countCells_81 : decode cX1_countCells 81 = .ok (.getfield 12, 3) := by decide +kernel
theorem dX1_countCells_84 : decode cX1_countCells 84 = .ok (.getfield 124, 3) := by decide +kernel
theorem dX1_countCells_87 : decode cX1_countCells 87 = .ok (.iconst 1, 1) := by decide +kernel
theorem dX1_countCells_88 : decode cX1_countCells 88 = .ok (.iload_n 2, 1) := by decide +kernel
theorem dX1_countCells_89 : decode cX1_countCells 89 = .ok (.iastore, 1) := by decide +kernel
theorem dX1_countCells_90 : decode cX1_countCells 90 = .ok (.aload_n 0, 1) := by decide +kernel
theorem dX1_countCells_91 : decode cX1_countCells 91 = .ok (.getfield 12, 3) := by decide +kernel
theorem dX1_countCells_94 : decode cX1_countCells 94 = .ok (.getfield 124, 3) := by decide +kernel
theorem dX1_countCells_97 : decode cX1_countCells 97 = .ok (.bipush 7, 2) := by decide +kernel
theorem dX1_countCells_99 : decode cX1_countCells 99 = .ok (.iload_n 1, 1) := by decide +kernel
theorem dX1_countCells_100 : decode cX1_countCells 100 = .ok (.iastore, 1) := by decide +kernel
theorem dX1_countCells_101 : decode cX1_countCells 101 = .ok (.return_, 1) := by decide +kernel
theorem dX2_init_0 : decode cX2_init 0 = .ok (.aload_n 0, 1) := by decide +kernel
theorem dX2_init_1 : decode cX2_init 1 = .ok (.invokespecial 3, 3) := by decide +kernel
theorem dX2_init_4 : decode cX2_init 4 = .ok (.aload_n 0, 1) := by decide +kernel
theorem dX2_init_5 : decode cX2_init 5 = .ok (.bipush 8, 2) := by decide +kernel
theorem dX2_init_7 : decode cX2_init 7 = .ok (.newarray .int, 2) := by decide +kernel
theorem dX2_init_9 : decode cX2_init 9 = .ok (.putfield 9, 3) := by decide +kernel
theorem dX2_init_12 : decode cX2_init 12 = .ok (.aload_n 0, 1) := by decide +kernel
theorem dX2_init_13 : decode cX2_init 13 = .ok (.invokevirtual 15, 3) := by decide +kernel
theorem dX2_init_16 : decode cX2_init 16 = .ok (.return_, 1) := by decide +kernel
theorem dX2_begin_0 : decode cX2_begin 0 = .ok (.aload_n 0, 1) := by decide +kernel
theorem dX2_begin_1 : decode cX2_begin 1 = .ok (.iconst 0, 1) := by decide +kernel
theorem dX2_begin_2 : decode cX2_begin 2 = .ok (.putfield 18, 3) := by decide +kernel
theorem dX2_begin_5 : decode cX2_begin 5 = .ok (.getstatic 22, 3) := by decide +kernel
theorem dX2_begin_8 : decode cX2_begin 8 = .ok (.iconst 0, 1) := by decide +kernel
theorem dX2_begin_9 : decode cX2_begin 9 = .ok (.aload_n 0, 1) := by decide +kernel
theorem dX2_begin_10 : decode cX2_begin 10 = .ok (.getfield 9, 3) := by decide +kernel
theorem dX2_begin_13 : decode cX2_begin 13 = .ok (.iconst 0, 1) := by decide +kernel
theorem dX2_begin_14 : decode cX2_begin 14 = .ok (.bipush 8, 2) := by decide +kernel
theorem dX2_begin_16 : decode cX2_begin 16 = .ok (.invokestatic 25, 3) := by decide +kernel
theorem dX2_begin_19 : decode cX2_begin 19 = .ok (.return_, 1) := by decide +kernel
theorem dX2_copyFrom_0 : decode cX2_copyFrom 0 = .ok (.aload_n 0, 1) := by decide +kernel
theorem dX2_copyFrom_1 : decode cX2_copyFrom 1 = .ok (.aload_n 1, 1) := by decide +kernel
theorem dX2_copyFrom_2 : decode cX2_copyFrom 2 = .ok (.getfield 18, 3) := by decide +kernel
theorem dX2_copyFrom_5 : decode cX2_copyFrom 5 = .ok (.putfield 18, 3) := by decide +kernel
theorem dX2_copyFrom_8 : decode cX2_copyFrom 8 = .ok (.aload_n 1, 1) := by decide +kernel
theorem dX2_copyFrom_9 : decode cX2_copyFrom 9 = .ok (.getfield 9, 3) := by decide +kernel
theorem dX2_copyFrom_12 : decode cX2_copyFrom 12 = .ok (.iconst 0, 1) := by decide +kernel
theorem dX2_copyFrom_13 : decode cX2_copyFrom 13 = .ok (.aload_n 0, 1) := by decide +kernel
theorem dX2_copyFrom_14 : decode cX2_copyFrom 14 = .ok (.getfield 9, 3) := by decide +kernel
theorem dX2_copyFrom_17 : decode cX2_copyFrom 17 = .ok (.iconst 0, 1) := by decide +kernel
theorem dX2_copyFrom_18 : decode cX2_copyFrom 18 = .ok (.bipush 8, 2) := by decide +kernel
theorem dX2_copyFrom_20 : decode cX2_copyFrom 20 = .ok (.invokestatic 25, 3) := by decide +kernel
theorem dX2_copyFrom_23 : decode cX2_copyFrom 23 = .ok (.return_, 1) := by decide +kernel
theorem dX2_offBy_0 : decode cX2_offBy 0 = .ok (.aload_n 0, 1) := by decide +kernel
theorem dX2_offBy_1 : decode cX2_offBy 1 = .ok (.getfield 9, 3) := by decide +kernel
theorem dX2_offBy_4 : decode cX2_offBy 4 = .ok (.iconst 3, 1) := by decide +kernel
theorem dX2_offBy_5 : decode cX2_offBy 5 = .ok (.iaload, 1) := by decide +kernel
theorem dX2_offBy_6 : decode cX2_offBy 6 = .ok (.aload_n 0, 1) := by decide +kernel
theorem dX2_offBy_7 : decode cX2_offBy 7 = .ok (.getfield 9, 3) := by decide +kernel
theorem dX2_offBy_10 : decode cX2_offBy 10 = .ok (.iconst 2, 1) := by decide +kernel
theorem dX2_offBy_11 : decode cX2_offBy 11 = .ok (.iaload, 1) := by decide +kernel
theorem dX2_offBy_12 : decode cX2_offBy 12 = .ok (.if_icmp .gt 17, 3) := by decide +kernel
theorem dX2_offBy_15 : decode cX2_offBy 15 = .ok (.iload_n 1, 1) := by decide +kernel
theorem dX2_offBy_16 : decode cX2_offBy 16 = .ok (.aload_n 0, 1) := by decide +kernel
theorem dX2_offBy_17 : decode cX2_offBy 17 = .ok (.getfield 9, 3) := by decide +kernel
theorem dX2_offBy_20 : decode cX2_offBy 20 = .ok (.iconst 4, 1) := by decide +kernel
theorem dX2_offBy_21 : decode cX2_offBy 21 = .ok (.iaload, 1) := by decide +kernel
theorem dX2_offBy_22 : decode cX2_offBy 22 = .ok (.imul, 1) := by decide +kernel
theorem dX2_offBy_23 : decode cX2_offBy 23 = .ok (.bipush 100, 2) := by decide +kernel
theorem dX2_offBy_25 : decode cX2_offBy 25 = .ok (.idiv, 1) := by decide +kernel
theorem dX2_offBy_26 : decode cX2_offBy 26 = .ok (.goto 4, 3) := by decide +kernel
theorem dX2_offBy_29 : decode cX2_offBy 29 = .ok (.iconst 0, 1) := by decide +kernel
theorem dX2_offBy_30 : decode cX2_offBy 30 = .ok (.ireturn, 1) := by decide +kernel
theorem dX2_hitOn_0 : decode cX2_hitOn 0 = .ok (.iload_n 2, 1) := by decide +kernel
theorem dX2_hitOn_1 : decode cX2_hitOn 1 = .ok (.istore_n 3, 1) := by decide +kernel
theorem dX2_hitOn_2 : decode cX2_hitOn 2 = .ok (.iload_n 1, 1) := by decide +kernel
theorem dX2_hitOn_3 : decode cX2_hitOn 3 = .ok (.iconst 1, 1) := by decide +kernel
theorem dX2_hitOn_4 : decode cX2_hitOn 4 = .ok (.if_icmp .eq 18, 3) := by decide +kernel
theorem dX2_hitOn_7 : decode cX2_hitOn 7 = .ok (.iload_n 3, 1) := by decide +kernel
theorem dX2_hitOn_8 : decode cX2_hitOn 8 = .ok (.bipush 100, 2) := by decide +kernel
theorem dX2_hitOn_10 : decode cX2_hitOn 10 = .ok (.aload_n 0, 1) := by decide +kernel
theorem dX2_hitOn_11 : decode cX2_hitOn 11 = .ok (.getfield 9, 3) := by decide +kernel
theorem dX2_hitOn_14 : decode cX2_hitOn 14 = .ok (.iconst 1, 1) := by decide +kernel
theorem dX2_hitOn_15 : decode cX2_hitOn 15 = .ok (.iaload, 1) := by decide +kernel
theorem dX2_hitOn_16 : decode cX2_hitOn 16 = .ok (.isub, 1) := by decide +kernel
theorem dX2_hitOn_17 : decode cX2_hitOn 17 = .ok (.imul, 1) := by decide +kernel
theorem dX2_hitOn_18 : decode cX2_hitOn 18 = .ok (.bipush 100, 2) := by decide +kernel
theorem dX2_hitOn_20 : decode cX2_hitOn 20 = .ok (.idiv, 1) := by decide +kernel
theorem dX2_hitOn_21 : decode cX2_hitOn 21 = .ok (.istore_n 3, 1) := by decide +kernel
theorem dX2_hitOn_22 : decode cX2_hitOn 22 = .ok (.iload_n 1, 1) := by decide +kernel
theorem dX2_hitOn_23 : decode cX2_hitOn 23 = .ok (.iconst 2, 1) := by decide +kernel
theorem dX2_hitOn_24 : decode cX2_hitOn 24 = .ok (.if_icmp .ne 16, 3) := by decide +kernel
theorem dX2_hitOn_27 : decode cX2_hitOn 27 = .ok (.iload_n 3, 1) := by decide +kernel
theorem dX2_hitOn_28 : decode cX2_hitOn 28 = .ok (.aload_n 0, 1) := by decide +kernel
theorem dX2_hitOn_29 : decode cX2_hitOn 29 = .ok (.getfield 9, 3) := by decide +kernel
theorem dX2_hitOn_32 : decode cX2_hitOn 32 = .ok (.bipush 6, 2) := by decide +kernel
theorem dX2_hitOn_34 : decode cX2_hitOn 34 = .ok (.iaload, 1) := by decide +kernel
theorem dX2_hitOn_35 : decode cX2_hitOn 35 = .ok (.imul, 1) := by decide +kernel
theorem dX2_hitOn_36 : decode cX2_hitOn 36 = .ok (.bipush 100, 2) := by decide +kernel
theorem dX2_hitOn_38 : decode cX2_hitOn 38 = .ok (.idiv, 1) := by decide +kernel
theorem dX2_hitOn_39 : decode cX2_hitOn 39 = .ok (.istore_n 3, 1) := by decide +kernel
theorem dX2_hitOn_40 : decode cX2_hitOn 40 = .ok (.iload_n 3, 1) := by decide +kernel
theorem dX2_hitOn_41 : decode cX2_hitOn 41 = .ok (.ireturn, 1) := by decide +kernel
theorem dX3_init_0 : decode cX3_init 0 = .ok (.aload_n 0, 1) := by decide +kernel
theorem dX3_init_1 : decode cX3_init 1 = .ok (.invokespecial 3, 3) := by decide +kernel
theorem dX3_init_4 : decode cX3_init 4 = .ok (.aload_n 0, 1) := by decide +kernel
theorem dX3_init_5 : decode cX3_init 5 = .ok (.bipush 9, 2) := by decide +kernel
theorem dX3_init_7 : decode cX3_init 7 = .ok (.newarray .int, 2) := by decide +kernel
theorem dX3_init_9 : decode cX3_init 9 = .ok (.putfield 9, 3) := by decide +kernel
theorem dX3_init_12 : decode cX3_init 12 = .ok (.aload_n 0, 1) := by decide +kernel
theorem dX3_init_13 : decode cX3_init 13 = .ok (.sipush 400, 3) := by decide +kernel
theorem dX3_init_16 : decode cX3_init 16 = .ok (.newarray .int, 2) := by decide +kernel
theorem dX3_init_18 : decode cX3_init 18 = .ok (.putfield 15, 3) := by decide +kernel
theorem dX3_init_21 : decode cX3_init 21 = .ok (.aload_n 0, 1) := by decide +kernel
theorem dX3_init_22 : decode cX3_init 22 = .ok (.sipush 400, 3) := by decide +kernel
theorem dX3_init_25 : decode cX3_init 25 = .ok (.newarray .int, 2) := by decide +kernel
theorem dX3_init_27 : decode cX3_init 27 = .ok (.putfield 18, 3) := by decide +kernel
theorem dX3_init_30 : decode cX3_init 30 = .ok (.aload_n 0, 1) := by decide +kernel
theorem dX3_init_31 : decode cX3_init 31 = .ok (.sipush 401, 3) := by decide +kernel
theorem dX3_init_34 : decode cX3_init 34 = .ok (.newarray .int, 2) := by decide +kernel
theorem dX3_init_36 : decode cX3_init 36 = .ok (.putfield 21, 3) := by decide +kernel
theorem dX3_init_39 : decode cX3_init 39 = .ok (.return_, 1) := by decide +kernel
theorem dX3_copyFrom_0 : decode cX3_copyFrom 0 = .ok (.aload_n 0, 1) := by decide +kernel
theorem dX3_copyFrom_1 : decode cX3_copyFrom 1 = .ok (.aload_n 1, 1) := by decide +kernel
theorem dX3_copyFrom_2 : decode cX3_copyFrom 2 = .ok (.getfield 24, 3) := by decide +kernel
theorem dX3_copyFrom_5 : decode cX3_copyFrom 5 = .ok (.putfield 24, 3) := by decide +kernel
theorem dX3_copyFrom_8 : decode cX3_copyFrom 8 = .ok (.aload_n 1, 1) := by decide +kernel
theorem dX3_copyFrom_9 : decode cX3_copyFrom 9 = .ok (.getfield 9, 3) := by decide +kernel
theorem dX3_copyFrom_12 : decode cX3_copyFrom 12 = .ok (.iconst 0, 1) := by decide +kernel
theorem dX3_copyFrom_13 : decode cX3_copyFrom 13 = .ok (.aload_n 0, 1) := by decide +kernel
theorem dX3_copyFrom_14 : decode cX3_copyFrom 14 = .ok (.getfield 9, 3) := by decide +kernel
theorem dX3_copyFrom_17 : decode cX3_copyFrom 17 = .ok (.iconst 0, 1) := by decide +kernel
theorem dX3_copyFrom_18 : decode cX3_copyFrom 18 = .ok (.bipush 9, 2) := by decide +kernel
theorem dX3_copyFrom_20 : decode cX3_copyFrom 20 = .ok (.invokestatic 28, 3) := by decide +kernel
theorem dX3_copyFrom_23 : decode cX3_copyFrom 23 = .ok (.aload_n 1, 1) := by decide +kernel
theorem dX3_copyFrom_24 : decode cX3_copyFrom 24 = .ok (.getfield 15, 3) := by decide +kernel
theorem dX3_copyFrom_27 : decode cX3_copyFrom 27 = .ok (.iconst 0, 1) := by decide +kernel
theorem dX3_copyFrom_28 : decode cX3_copyFrom 28 = .ok (.aload_n 0, 1) := by decide +kernel
theorem dX3_copyFrom_29 : decode cX3_copyFrom 29 = .ok (.getfield 15, 3) := by decide +kernel
theorem dX3_copyFrom_32 : decode cX3_copyFrom 32 = .ok (.iconst 0, 1) := by decide +kernel
theorem dX3_copyFrom_33 : decode cX3_copyFrom 33 = .ok (.sipush 400, 3) := by decide +kernel
theorem dX3_copyFrom_36 : decode cX3_copyFrom 36 = .ok (.invokestatic 28, 3) := by decide +kernel
theorem dX3_copyFrom_39 : decode cX3_copyFrom 39 = .ok (.aload_n 1, 1) := by decide +kernel
theorem dX3_copyFrom_40 : decode cX3_copyFrom 40 = .ok (.getfield 18, 3) := by decide +kernel
theorem dX3_copyFrom_43 : decode cX3_copyFrom 43 = .ok (.iconst 0, 1) := by decide +kernel
theorem dX3_copyFrom_44 : decode cX3_copyFrom 44 = .ok (.aload_n 0, 1) := by decide +kernel
theorem dX3_copyFrom_45 : decode cX3_copyFrom 45 = .ok (.getfield 18, 3) := by decide +kernel
theorem dX3_copyFrom_48 : decode cX3_copyFrom 48 = .ok (.iconst 0, 1) := by decide +kernel
theorem dX3_copyFrom_49 : decode cX3_copyFrom 49 = .ok (.sipush 400, 3) := by decide +kernel
theorem dX3_copyFrom_52 : decode cX3_copyFrom 52 = .ok (.invokestatic 28, 3) := by decide +kernel
theorem dX3_copyFrom_55 : decode cX3_copyFrom 55 = .ok (.return_, 1) := by decide +kernel
theorem dX3_begin_0 : decode cX3_begin 0 = .ok (.aload_n 0, 1) := by decide +kernel
theorem dX3_begin_1 : decode cX3_begin 1 = .ok (.iconst 0, 1) := by decide +kernel
theorem dX3_begin_2 : decode cX3_begin 2 = .ok (.putfield 24, 3) := by decide +kernel
theorem dX3_begin_5 : decode cX3_begin 5 = .ok (.aload_n 0, 1) := by decide +kernel
theorem dX3_begin_6 : decode cX3_begin 6 = .ok (.getfield 9, 3) := by decide +kernel
theorem dX3_begin_9 : decode cX3_begin 9 = .ok (.iconst 0, 1) := by decide +kernel
theorem dX3_begin_10 : decode cX3_begin 10 = .ok (.iconst 0, 1) := by decide +kernel
theorem dX3_begin_11 : decode cX3_begin 11 = .ok (.iastore, 1) := by decide +kernel
theorem dX3_begin_12 : decode cX3_begin 12 = .ok (.return_, 1) := by decide +kernel
theorem dX3_tell_0 : decode cX3_tell 0 = .ok (.aload_n 0, 1) := by decide +kernel
theorem dX3_tell_1 : decode cX3_tell 1 = .ok (.getfield 9, 3) := by decide +kernel
theorem dX3_tell_4 : decode cX3_tell 4 = .ok (.aload_n 0, 1) := by decide +kernel
theorem dX3_tell_5 : decode cX3_tell 5 = .ok (.getfield 24, 3) := by decide +kernel
theorem dX3_tell_8 : decode cX3_tell 8 = .ok (.iconst 1, 1) := by decide +kernel
theorem dX3_tell_9 : decode cX3_tell 9 = .ok (.iadd, 1) := by decide +kernel
theorem dX3_tell_10 : decode cX3_tell 10 = .ok (.iaload, 1) := by decide +kernel
theorem dX3_tell_11 : decode cX3_tell 11 = .ok (.istore_n 3, 1) := by decide +kernel
theorem dX3_tell_12 : decode cX3_tell 12 = .ok (.iload_n 3, 1) := by decide +kernel
theorem dX3_tell_13 : decode cX3_tell 13 = .ok (.sipush 400, 3) := by decide +kernel
theorem dX3_tell_16 : decode cX3_tell 16 = .ok (.if_icmp .ge 31, 3) := by decide +kernel
theorem dX3_tell_19 : decode cX3_tell 19 = .ok (.aload_n 0, 1) := by decide +kernel
theorem dX3_tell_20 : decode cX3_tell 20 = .ok (.getfield 15, 3) := by decide +kernel
theorem dX3_tell_23 : decode cX3_tell 23 = .ok (.iload_n 3, 1) := by decide +kernel
theorem dX3_tell_24 : decode cX3_tell 24 = .ok (.iload_n 1, 1) := by decide +kernel
theorem dX3_tell_25 : decode cX3_tell 25 = .ok (.iastore, 1) := by decide +kernel
theorem dX3_tell_26 : decode cX3_tell 26 = .ok (.aload_n 0, 1) := by decide +kernel
theorem dX3_tell_27 : decode cX3_tell 27 = .ok (.getfield 18, 3) := by decide +kernel
theorem dX3_tell_30 : decode cX3_tell 30 = .ok (.iload_n 3, 1) := by decide +kernel
theorem dX3_tell_31 : decode cX3_tell 31 = .ok (.iload_n 2, 1) := by decide +kernel
theorem dX3_tell_32 : decode cX3_tell 32 = .ok (.iastore, 1) := by decide +kernel
theorem dX3_tell_33 : decode cX3_tell 33 = .ok (.aload_n 0, 1) := by decide +kernel
theorem dX3_tell_34 : decode cX3_tell 34 = .ok (.getfield 9, 3) := by decide +kernel
theorem dX3_tell_37 : decode cX3_tell 37 = .ok (.aload_n 0, 1) := by decide +kernel
theorem dX3_tell_38 : decode cX3_tell 38 = .ok (.getfield 24, 3) := by decide +kernel
theorem dX3_tell_41 : decode cX3_tell 41 = .ok (.iconst 1, 1) := by decide +kernel
theorem dX3_tell_42 : decode cX3_tell 42 = .ok (.iadd, 1) := by decide +kernel
theorem dX3_tell_43 : decode cX3_tell 43 = .ok (.iload_n 3, 1) := by decide +kernel
theorem dX3_tell_44 : decode cX3_tell 44 = .ok (.iconst 1, 1) := by decide +kernel
theorem dX3_tell_45 : decode cX3_tell 45 = .ok (.iadd, 1) := by decide +kernel
theorem dX3_tell_46 : decode cX3_tell 46 = .ok (.iastore, 1) := by decide +kernel
theorem dX3_tell_47 : decode cX3_tell 47 = .ok (.return_, 1) := by decide +kernel
theorem dX3_isSo_0 : decode cX3_isSo 0 = .ok (.iconst 0, 1) := by decide +kernel
theorem dX3_isSo_1 : decode cX3_isSo 1 = .ok (.istore_n 3, 1) := by decide +kernel
theorem dX3_isSo_2 : decode cX3_isSo 2 = .ok (.aload_n 0, 1) := by decide +kernel
theorem dX3_isSo_3 : decode cX3_isSo 3 = .ok (.getfield 9, 3) := by decide +kernel
theorem dX3_isSo_6 : decode cX3_isSo 6 = .ok (.iload_n 1, 1) := by decide +kernel
theorem dX3_isSo_7 : decode cX3_isSo 7 = .ok (.iaload, 1) := by decide +kernel
theorem dX3_isSo_8 : decode cX3_isSo 8 = .ok (.istore 4, 2) := by decide +kernel
theorem dX3_isSo_10 : decode cX3_isSo 10 = .ok (.iload 4, 2) := by decide +kernel
theorem dX3_isSo_12 : decode cX3_isSo 12 = .ok (.aload_n 0, 1) := by decide +kernel
theorem dX3_isSo_13 : decode cX3_isSo 13 = .ok (.getfield 9, 3) := by decide +kernel
theorem dX3_isSo_16 : decode cX3_isSo 16 = .ok (.iload_n 1, 1) := by decide +kernel
theorem dX3_isSo_17 : decode cX3_isSo 17 = .ok (.iconst 1, 1) := by decide +kernel
theorem dX3_isSo_18 : decode cX3_isSo 18 = .ok (.iadd, 1) := by decide +kernel
theorem dX3_isSo_19 : decode cX3_isSo 19 = .ok (.iaload, 1) := by decide +kernel
theorem dX3_isSo_20 : decode cX3_isSo 20 = .ok (.if_icmp .ge 162, 3) := by decide +kernel
theorem dX3_isSo_23 : decode cX3_isSo 23 = .ok (.aload_n 0, 1) := by decide +kernel
theorem dX3_isSo_24 : decode cX3_isSo 24 = .ok (.getfield 15, 3) := by decide +kernel
theorem dX3_isSo_27 : decode cX3_isSo 27 = .ok (.iload 4, 2) := by decide +kernel
theorem dX3_isSo_29 : decode cX3_isSo 29 = .ok (.iaload, 1) := by decide +kernel
theorem dX3_isSo_30 : decode cX3_isSo 30 = .ok (.bipush 26, 2) := by decide +kernel
theorem dX3_isSo_32 : decode cX3_isSo 32 = .ok (.if_icmp .ne 29, 3) := by decide +kernel
theorem dX3_isSo_35 : decode cX3_isSo 35 = .ok (.iload_n 3, 1) := by decide +kernel
theorem dX3_isSo_36 : decode cX3_isSo 36 = .ok (.iconst 1, 1) := by decide +kernel
theorem dX3_isSo_37 : decode cX3_isSo 37 = .ok (.if_icmp .lt 24, 3) := by decide +kernel
theorem dX3_isSo_40 : decode cX3_isSo 40 = .ok (.aload_n 0, 1) := by decide +kernel
theorem dX3_isSo_41 : decode cX3_isSo 41 = .ok (.getfield 21, 3) := by decide +kernel
theorem dX3_isSo_44 : decode cX3_isSo 44 = .ok (.iload_n 3, 1) := by decide +kernel
theorem dX3_isSo_45 : decode cX3_isSo 45 = .ok (.iconst 1, 1) := by decide +kernel
theorem dX3_isSo_46 : decode cX3_isSo 46 = .ok (.isub, 1) := by decide +kernel
theorem dX3_isSo_47 : decode cX3_isSo 47 = .ok (.iconst 1, 1) := by decide +kernel
theorem dX3_isSo_48 : decode cX3_isSo 48 = .ok (.aload_n 0, 1) := by decide +kernel
theorem dX3_isSo_49 : decode cX3_isSo 49 = .ok (.getfield 21, 3) := by decide +kernel
theorem dX3_isSo_52 : decode cX3_isSo 52 = .ok (.iload_n 3, 1) := by decide +kernel
theorem dX3_isSo_53 : decode cX3_isSo 53 = .ok (.iconst 1, 1) := by decide +kernel
theorem dX3_isSo_54 : decode cX3_isSo 54 = .ok (.isub, 1) := by decide +kernel
theorem dX3_isSo_55 : decode cX3_isSo 55 = .ok (.iaload, 1) := by decide +kernel
theorem dX3_isSo_56 : decode cX3_isSo 56 = .ok (.isub, 1) := by decide +kernel
theorem dX3_isSo_57 : decode cX3_isSo 57 = .ok (.iastore, 1) := by decide +kernel
theorem dX3_isSo_58 : decode cX3_isSo 58 = .ok (.goto 118, 3) := by decide +kernel
theorem dX3_isSo_61 : decode cX3_isSo 61 = .ok (.aload_n 0, 1) := by decide +kernel
theorem dX3_isSo_62 : decode cX3_isSo 62 = .ok (.getfield 15, 3) := by decide +kernel
theorem dX3_isSo_65 : decode cX3_isSo 65 = .ok (.iload 4, 2) := by decide +kernel
theorem dX3_isSo_67 : decode cX3_isSo 67 = .ok (.iaload, 1) := by decide +kernel
theorem dX3_isSo_68 : decode cX3_isSo 68 = .ok (.bipush 25, 2) := by decide +kernel
theorem dX3_isSo_70 : decode cX3_isSo 70 = .ok (.if_icmp .ne 31, 3) := by decide +kernel
theorem dX3_isSo_73 : decode cX3_isSo 73 = .ok (.iload_n 3, 1) := by decide +kernel
theorem dX3_isSo_74 : decode cX3_isSo 74 = .ok (.iconst 2, 1) := by decide +kernel
theorem dX3_isSo_75 : decode cX3_isSo 75 = .ok (.if_icmp .lt 26, 3) := by decide +kernel
theorem dX3_isSo_78 : decode cX3_isSo 78 = .ok (.iinc 3 (-1), 3) := by decide +kernel
theorem dX3_isSo_81 : decode cX3_isSo 81 = .ok (.aload_n 0, 1) := by decide +kernel
theorem dX3_isSo_82 : decode cX3_isSo 82 = .ok (.getfield 21, 3) := by decide +kernel
theorem dX3_isSo_85 : decode cX3_isSo 85 = .ok (.iload_n 3, 1) := by decide +kernel
theorem dX3_isSo_86 : decode cX3_isSo 86 = .ok (.iconst 1, 1) := by decide +kernel
theorem dX3_isSo_87 : decode cX3_isSo 87 = .ok (.isub, 1) := by decide +kernel
theorem dX3_isSo_88 : decode cX3_isSo 88 = .ok (.dup2, 1) := by decide +kernel
theorem dX3_isSo_89 : decode cX3_isSo 89 = .ok (.iaload, 1) := by decide +kernel
theorem dX3_isSo_90 : decode cX3_isSo 90 = .ok (.aload_n 0, 1) := by decide +kernel
theorem dX3_isSo_91 : decode cX3_isSo 91 = .ok (.getfield 21, 3) := by decide +kernel
theorem dX3_isSo_94 : decode cX3_isSo 94 = .ok (.iload_n 3, 1) := by decide +kernel
theorem dX3_isSo_95 : decode cX3_isSo 95 = .ok (.iaload, 1) := by decide +kernel
theorem dX3_isSo_96 : decode cX3_isSo 96 = .ok (.iand, 1) := by decide +kernel
theorem dX3_isSo_97 : decode cX3_isSo 97 = .ok (.iastore, 1) := by decide +kernel
theorem dX3_isSo_98 : decode cX3_isSo 98 = .ok (.goto 78, 3) := by decide +kernel
theorem dX3_isSo_101 : decode cX3_isSo 101 = .ok (.aload_n 0, 1) := by decide +kernel
theorem dX3_isSo_102 : decode cX3_isSo 102 = .ok (.getfield 15, 3) := by decide +kernel
theorem dX3_isSo_105 : decode cX3_isSo 105 = .ok (.iload 4, 2) := by decide +kernel
theorem dX3_isSo_107 : decode cX3_isSo 107 = .ok (.iaload, 1) := by decide +kernel
theorem dX3_isSo_108 : decode cX3_isSo 108 = .ok (.bipush 24, 2) := by decide +kernel
theorem dX3_isSo_110 : decode cX3_isSo 110 = .ok (.if_icmp .ne 31, 3) := by decide +kernel
theorem dX3_isSo_113 : decode cX3_isSo 113 = .ok (.iload_n 3, 1) := by decide +kernel
theorem dX3_isSo_114 : decode cX3_isSo 114 = .ok (.iconst 2, 1) := by decide +kernel
theorem dX3_isSo_115 : decode cX3_isSo 115 = .ok (.if_icmp .lt 26, 3) := by decide +kernel
theorem dX3_isSo_118 : decode cX3_isSo 118 = .ok (.iinc 3 (-1), 3) := by decide +kernel
theorem dX3_isSo_121 : decode cX3_isSo 121 = .ok (.aload_n 0, 1) := by decide +kernel
theorem dX3_isSo_122 : decode cX3_isSo 122 = .ok (.getfield 21, 3) := by decide +kernel
theorem dX3_isSo_125 : decode cX3_isSo 125 = .ok (.iload_n 3, 1) := by decide +kernel
theorem dX3_isSo_126 : decode cX3_isSo 126 = .ok (.iconst 1, 1) := by decide +kernel
theorem dX3_isSo_127 : decode cX3_isSo 127 = .ok (.isub, 1) := by decide +kernel
theorem dX3_isSo_128 : decode cX3_isSo 128 = .ok (.dup2, 1) := by decide +kernel
theorem dX3_isSo_129 : decode cX3_isSo 129 = .ok (.iaload, 1) := by decide +kernel
theorem dX3_isSo_130 : decode cX3_isSo 130 = .ok (.aload_n 0, 1) := by decide +kernel
theorem dX3_isSo_131 : decode cX3_isSo 131 = .ok (.getfield 21, 3) := by decide +kernel
theorem dX3_isSo_134 : decode cX3_isSo 134 = .ok (.iload_n 3, 1) := by decide +kernel
theorem dX3_isSo_135 : decode cX3_isSo 135 = .ok (.iaload, 1) := by decide +kernel
theorem dX3_isSo_136 : decode cX3_isSo 136 = .ok (.ior, 1) := by decide +kernel
theorem dX3_isSo_137 : decode cX3_isSo 137 = .ok (.iastore, 1) := by decide +kernel
theorem dX3_isSo_138 : decode cX3_isSo 138 = .ok (.goto 38, 3) := by decide +kernel
theorem dX3_isSo_141 : decode cX3_isSo 141 = .ok (.aload_n 0, 1) := by decide +kernel
theorem dX3_isSo_142 : decode cX3_isSo 142 = .ok (.getfield 21, 3) := by decide +kernel
theorem dX3_isSo_145 : decode cX3_isSo 145 = .ok (.iload_n 3, 1) := by decide +kernel
theorem dX3_isSo_146 : decode cX3_isSo 146 = .ok (.aload_n 0, 1) := by decide +kernel
theorem dX3_isSo_147 : decode cX3_isSo 147 = .ok (.getfield 15, 3) := by decide +kernel
theorem dX3_isSo_150 : decode cX3_isSo 150 = .ok (.iload 4, 2) := by decide +kernel
theorem dX3_isSo_152 : decode cX3_isSo 152 = .ok (.iaload, 1) := by decide +kernel
theorem dX3_isSo_153 : decode cX3_isSo 153 = .ok (.aload_n 0, 1) := by decide +kernel
theorem dX3_isSo_154 : decode cX3_isSo 154 = .ok (.getfield 18, 3) := by decide +kernel
theorem dX3_isSo_157 : decode cX3_isSo 157 = .ok (.iload 4, 2) := by decide +kernel
theorem dX3_isSo_159 : decode cX3_isSo 159 = .ok (.iaload, 1) := by decide +kernel
theorem dX3_isSo_160 : decode cX3_isSo 160 = .ok (.aload_n 2, 1) := by decide +kernel
theorem dX3_isSo_161 : decode cX3_isSo 161 = .ok (.invokestatic 34, 3) := by decide +kernel
theorem dX3_isSo_164 : decode cX3_isSo 164 = .ok (.ifCond .eq 7, 3) := by decide +kernel
theorem dX3_isSo_167 : decode cX3_isSo 167 = .ok (.iconst 1, 1) := by decide +kernel
theorem dX3_isSo_168 : decode cX3_isSo 168 = .ok (.goto 4, 3) := by decide +kernel
theorem dX3_isSo_171 : decode cX3_isSo 171 = .ok (.iconst 0, 1) := by decide +kernel
theorem dX3_isSo_172 : decode cX3_isSo 172 = .ok (.iastore, 1) := by decide +kernel
theorem dX3_isSo_173 : decode cX3_isSo 173 = .ok (.iinc 3 1, 3) := by decide +kernel
theorem dX3_isSo_176 : decode cX3_isSo 176 = .ok (.iinc 4 1, 3) := by decide +kernel
theorem dX3_isSo_179 : decode cX3_isSo 179 = .ok (.goto (-169), 3) := by decide +kernel
theorem dX3_isSo_182 : decode cX3_isSo 182 = .ok (.iload_n 3, 1) := by decide +kernel
theorem dX3_isSo_183 : decode cX3_isSo 183 = .ok (.iconst 1, 1) := by decide +kernel
theorem dX3_isSo_184 : decode cX3_isSo 184 = .ok (.if_icmp .lt 17, 3) := by decide +kernel
theorem dX3_isSo_187 : decode cX3_isSo 187 = .ok (.aload_n 0, 1) := by decide +kernel
theorem dX3_isSo_188 : decode cX3_isSo 188 = .ok (.getfield 21, 3) := by decide +kernel
theorem dX3_isSo_191 : decode cX3_isSo 191 = .ok (.iconst 0, 1) := by decide +kernel
theorem dX3_isSo_192 : decode cX3_isSo 192 = .ok (.iaload, 1) := by decide +kernel
theorem dX3_isSo_193 : decode cX3_isSo 193 = .ok (.iconst 1, 1) := by decide +kernel
theorem dX3_isSo_194 : decode cX3_isSo 194 = .ok (.if_icmp .ne 7, 3) := by decide +kernel
theorem dX3_isSo_197 : decode cX3_isSo 197 = .ok (.iconst 1, 1) := by decide +kernel
theorem dX3_isSo_198 : decode cX3_isSo 198 = .ok (.goto 4, 3) := by decide +kernel
theorem dX3_isSo_201 : decode cX3_isSo 201 = .ok (.iconst 0, 1) := by decide +kernel
theorem dX3_isSo_202 : decode cX3_isSo 202 = .ok (.ireturn, 1) := by decide +kernel
theorem dX3_isFact_0 : decode cX3_isFact 0 = .ok (.aload_n 2, 1) := by decide +kernel
theorem dX3_isFact_1 : decode cX3_isFact 1 = .ok (.getfield 38, 3) := by decide +kernel
theorem dX3_isFact_4 : decode cX3_isFact 4 = .ok (.iconst 0, 1) := by decide +kernel
theorem dX3_isFact_5 : decode cX3_isFact 5 = .ok (.iaload, 1) := by decide +kernel
theorem dX3_isFact_6 : decode cX3_isFact 6 = .ok (.ifCond .le 7, 3) := by decide +kernel
theorem dX3_isFact_9 : decode cX3_isFact 9 = .ok (.iconst 1, 1) := by decide +kernel
theorem dX3_isFact_10 : decode cX3_isFact 10 = .ok (.goto 4, 3) := by decide +kernel
theorem dX3_isFact_13 : decode cX3_isFact 13 = .ok (.iconst 0, 1) := by decide +kernel
theorem dX3_isFact_14 : decode cX3_isFact 14 = .ok (.istore_n 3, 1) := by decide +kernel
theorem dX3_isFact_15 : decode cX3_isFact 15 = .ok (.iload_n 0, 1) := by decide +kernel
theorem dX3_isFact_16 : decode cX3_isFact 16 = .ok (.tableswitch 222 27 36 #[56, 75, 94, 110, 125, 140, 156, 175, 189, 203], 56) := by decide +kernel
theorem dX3_isFact_72 : decode cX3_isFact 72 = .ok (.iload_n 3, 1) := by decide +kernel
theorem dX3_isFact_73 : decode cX3_isFact 73 = .ok (.ifCond .eq 16, 3) := by decide +kernel
theorem dX3_isFact_76 : decode cX3_isFact 76 = .ok (.aload_n 2, 1) := by decide +kernel
theorem dX3_isFact_77 : decode cX3_isFact 77 = .ok (.iconst 0, 1) := by decide +kernel
theorem dX3_isFact_78 : decode cX3_isFact 78 = .ok (.invokevirtual 43, 3) := by decide +kernel
theorem dX3_isFact_81 : decode cX3_isFact 81 = .ok (.iconst 4, 1) := by decide +kernel
theorem dX3_isFact_82 : decode cX3_isFact 82 = .ok (.if_icmp .ne 7, 3) := by decide +kernel
theorem dX3_isFact_85 : decode cX3_isFact 85 = .ok (.iconst 1, 1) := by decide +kernel
theorem dX3_isFact_86 : decode cX3_isFact 86 = .ok (.goto 4, 3) := by decide +kernel
theorem dX3_isFact_89 : decode cX3_isFact 89 = .ok (.iconst 0, 1) := by decide +kernel
theorem dX3_isFact_90 : decode cX3_isFact 90 = .ok (.ireturn, 1) := by decide +kernel
theorem dX3_isFact_91 : decode cX3_isFact 91 = .ok (.iload_n 3, 1) := by decide +kernel
theorem dX3_isFact_92 : decode cX3_isFact 92 = .ok (.ifCond .eq 16, 3) := by decide +kernel
theorem dX3_isFact_95 : decode cX3_isFact 95 = .ok (.aload_n 2, 1) := by decide +kernel
theorem dX3_isFact_96 : decode cX3_isFact 96 = .ok (.iconst 0, 1) := by decide +kernel
theorem dX3_isFact_97 : decode cX3_isFact 97 = .ok (.invokevirtual 43, 3) := by decide +kernel
theorem dX3_isFact_100 : decode cX3_isFact 100 = .ok (.iconst 3, 1) := by decide +kernel
theorem dX3_isFact_101 : decode cX3_isFact 101 = .ok (.if_icmp .ne 7, 3) := by decide +kernel
theorem dX3_isFact_104 : decode cX3_isFact 104 = .ok (.iconst 1, 1) := by decide +kernel
theorem dX3_isFact_105 : decode cX3_isFact 105 = .ok (.goto 4, 3) := by decide +kernel
theorem dX3_isFact_108 : decode cX3_isFact 108 = .ok (.iconst 0, 1) := by decide +kernel
theorem dX3_isFact_109 : decode cX3_isFact 109 = .ok (.ireturn, 1) := by decide +kernel
theorem dX3_isFact_110 : decode cX3_isFact 110 = .ok (.aload_n 2, 1) := by decide +kernel
theorem dX3_isFact_111 : decode cX3_isFact 111 = .ok (.getfield 38, 3) := by decide +kernel
theorem dX3_isFact_114 : decode cX3_isFact 114 = .ok (.iconst 1, 1) := by decide +kernel
theorem dX3_isFact_115 : decode cX3_isFact 115 = .ok (.iaload, 1) := by decide +kernel
theorem dX3_isFact_116 : decode cX3_isFact 116 = .ok (.iload_n 1, 1) := by decide +kernel
theorem dX3_isFact_117 : decode cX3_isFact 117 = .ok (.if_icmp .lt 7, 3) := by decide +kernel
theorem dX3_isFact_120 : decode cX3_isFact 120 = .ok (.iconst 1, 1) := by decide +kernel
theorem dX3_isFact_121 : decode cX3_isFact 121 = .ok (.goto 4, 3) := by decide +kernel
theorem dX3_isFact_124 : decode cX3_isFact 124 = .ok (.iconst 0, 1) := by decide +kernel
theorem dX3_isFact_125 : decode cX3_isFact 125 = .ok (.ireturn, 1) := by decide +kernel
theorem dX3_isFact_126 : decode cX3_isFact 126 = .ok (.aload_n 2, 1) := by decide +kernel
theorem dX3_isFact_127 : decode cX3_isFact 127 = .ok (.iconst 1, 1) := by decide +kernel
theorem dX3_isFact_128 : decode cX3_isFact 128 = .ok (.invokevirtual 47, 3) := by decide +kernel
theorem dX3_isFact_131 : decode cX3_isFact 131 = .ok (.iload_n 1, 1) := by decide +kernel
theorem dX3_isFact_132 : decode cX3_isFact 132 = .ok (.if_icmp .lt 7, 3) := by decide +kernel
theorem dX3_isFact_135 : decode cX3_isFact 135 = .ok (.iconst 1, 1) := by decide +kernel
theorem dX3_isFact_136 : decode cX3_isFact 136 = .ok (.goto 4, 3) := by decide +kernel
theorem dX3_isFact_139 : decode cX3_isFact 139 = .ok (.iconst 0, 1) := by decide +kernel
theorem dX3_isFact_140 : decode cX3_isFact 140 = .ok (.ireturn, 1) := by decide +kernel
theorem dX3_isFact_141 : decode cX3_isFact 141 = .ok (.aload_n 2, 1) := by decide +kernel
theorem dX3_isFact_142 : decode cX3_isFact 142 = .ok (.iconst 2, 1) := by decide +kernel
theorem dX3_isFact_143 : decode cX3_isFact 143 = .ok (.invokevirtual 47, 3) := by decide +kernel
theorem dX3_isFact_146 : decode cX3_isFact 146 = .ok (.iload_n 1, 1) := by decide +kernel
theorem dX3_isFact_147 : decode cX3_isFact 147 = .ok (.if_icmp .lt 7, 3) := by decide +kernel
theorem dX3_isFact_150 : decode cX3_isFact 150 = .ok (.iconst 1, 1) := by decide +kernel
theorem dX3_isFact_151 : decode cX3_isFact 151 = .ok (.goto 4, 3) := by decide +kernel
theorem dX3_isFact_154 : decode cX3_isFact 154 = .ok (.iconst 0, 1) := by decide +kernel
theorem dX3_isFact_155 : decode cX3_isFact 155 = .ok (.ireturn, 1) := by decide +kernel
theorem dX3_isFact_156 : decode cX3_isFact 156 = .ok (.aload_n 2, 1) := by decide +kernel
theorem dX3_isFact_157 : decode cX3_isFact 157 = .ok (.getfield 38, 3) := by decide +kernel
theorem dX3_isFact_160 : decode cX3_isFact 160 = .ok (.iconst 3, 1) := by decide +kernel
theorem dX3_isFact_161 : decode cX3_isFact 161 = .ok (.iaload, 1) := by decide +kernel
theorem dX3_isFact_162 : decode cX3_isFact 162 = .ok (.iload_n 1, 1) := by decide +kernel
theorem dX3_isFact_163 : decode cX3_isFact 163 = .ok (.if_icmp .lt 7, 3) := by decide +kernel
theorem dX3_isFact_166 : decode cX3_isFact 166 = .ok (.iconst 1, 1) := by decide +kernel
theorem dX3_isFact_167 : decode cX3_isFact 167 = .ok (.goto 4, 3) := by decide +kernel
theorem dX3_isFact_170 : decode cX3_isFact 170 = .ok (.iconst 0, 1) := by decide +kernel
theorem dX3_isFact_171 : decode cX3_isFact 171 = .ok (.ireturn, 1) := by decide +kernel
theorem dX3_isFact_172 : decode cX3_isFact 172 = .ok (.iload_n 3, 1) := by decide +kernel
theorem dX3_isFact_173 : decode cX3_isFact 173 = .ok (.ifCond .eq 16, 3) := by decide +kernel
theorem dX3_isFact_176 : decode cX3_isFact 176 = .ok (.aload_n 2, 1) := by decide +kernel
theorem dX3_isFact_177 : decode cX3_isFact 177 = .ok (.iconst 0, 1) := by decide +kernel
theorem dX3_isFact_178 : decode cX3_isFact 178 = .ok (.invokevirtual 50, 3) := by decide +kernel
theorem dX3_isFact_181 : decode cX3_isFact 181 = .ok (.iload_n 1, 1) := by decide +kernel
theorem dX3_isFact_182 : decode cX3_isFact 182 = .ok (.if_icmp .ne 7, 3) := by decide +kernel
theorem dX3_isFact_185 : decode cX3_isFact 185 = .ok (.iconst 1, 1) := by decide +kernel
theorem dX3_isFact_186 : decode cX3_isFact 186 = .ok (.goto 4, 3) := by decide +kernel
theorem dX3_isFact_189 : decode cX3_isFact 189 = .ok (.iconst 0, 1) := by decide +kernel
theorem dX3_isFact_190 : decode cX3_isFact 190 = .ok (.ireturn, 1) := by decide +kernel
theorem dX3_isFact_191 : decode cX3_isFact 191 = .ok (.aload_n 2, 1) := by decide +kernel
theorem dX3_isFact_192 : decode cX3_isFact 192 = .ok (.invokevirtual 53, 3) := by decide +kernel
theorem dX3_isFact_195 : decode cX3_isFact 195 = .ok (.iload_n 1, 1) := by decide +kernel
theorem dX3_isFact_196 : decode cX3_isFact 196 = .ok (.if_icmp .lt 7, 3) := by decide +kernel
theorem dX3_isFact_199 : decode cX3_isFact 199 = .ok (.iconst 1, 1) := by decide +kernel
theorem dX3_isFact_200 : decode cX3_isFact 200 = .ok (.goto 4, 3) := by decide +kernel
theorem dX3_isFact_203 : decode cX3_isFact 203 = .ok (.iconst 0, 1) := by decide +kernel
theorem dX3_isFact_204 : decode cX3_isFact 204 = .ok (.ireturn, 1) := by decide +kernel
theorem dX3_isFact_205 : decode cX3_isFact 205 = .ok (.aload_n 2, 1) := by decide +kernel
theorem dX3_isFact_206 : decode cX3_isFact 206 = .ok (.invokevirtual 57, 3) := by decide +kernel
theorem dX3_isFact_209 : decode cX3_isFact 209 = .ok (.iload_n 1, 1) := by decide +kernel
theorem dX3_isFact_210 : decode cX3_isFact 210 = .ok (.if_icmp .gt 7, 3) := by decide +kernel
theorem dX3_isFact_213 : decode cX3_isFact 213 = .ok (.iconst 1, 1) := by decide +kernel
theorem dX3_isFact_214 : decode cX3_isFact 214 = .ok (.goto 4, 3) := by decide +kernel
theorem dX3_isFact_217 : decode cX3_isFact 217 = .ok (.iconst 0, 1) := by decide +kernel
theorem dX3_isFact_218 : decode cX3_isFact 218 = .ok (.ireturn, 1) := by decide +kernel
theorem dX3_isFact_219 : decode cX3_isFact 219 = .ok (.iload_n 3, 1) := by decide +kernel
theorem dX3_isFact_220 : decode cX3_isFact 220 = .ok (.ifCond .eq 16, 3) := by decide +kernel
theorem dX3_isFact_223 : decode cX3_isFact 223 = .ok (.aload_n 2, 1) := by decide +kernel
theorem dX3_isFact_224 : decode cX3_isFact 224 = .ok (.iconst 0, 1) := by decide +kernel
theorem dX3_isFact_225 : decode cX3_isFact 225 = .ok (.invokevirtual 60, 3) := by decide +kernel
theorem dX3_isFact_228 : decode cX3_isFact 228 = .ok (.iload_n 1, 1) := by decide +kernel
theorem dX3_isFact_229 : decode cX3_isFact 229 = .ok (.if_icmp .lt 7, 3) := by decide +kernel
theorem dX3_isFact_232 : decode cX3_isFact 232 = .ok (.iconst 1, 1) := by decide +kernel
theorem dX3_isFact_233 : decode cX3_isFact 233 = .ok (.goto 4, 3) := by decide +kernel
theorem dX3_isFact_236 : decode cX3_isFact 236 = .ok (.iconst 0, 1) := by decide +kernel
theorem dX3_isFact_237 : decode cX3_isFact 237 = .ok (.ireturn, 1) := by decide +kernel
theorem dX3_isFact_238 : decode cX3_isFact 238 = .ok (.iconst 0, 1) := by decide +kernel
theorem dX3_isFact_239 : decode cX3_isFact 239 = .ok (.ireturn, 1) := by decide +kernel
theorem dX4_init_0 : decode cX4_init 0 = .ok (.aload_n 0, 1) := by decide +kernel
theorem dX4_init_1 : decode cX4_init 1 = .ok (.invokespecial 3, 3) := by decide +kernel
theorem dX4_init_4 : decode cX4_init 4 = .ok (.aload_n 0, 1) := by decide +kernel
theorem dX4_init_5 : decode cX4_init 5 = .ok (.iconst (-1), 1) := by decide +kernel
theorem dX4_init_6 : decode cX4_init 6 = .ok (.putfield 9, 3) := by decide +kernel
theorem dX4_init_9 : decode cX4_init 9 = .ok (.aload_n 0, 1) := by decide +kernel
theorem dX4_init_10 : decode cX4_init 10 = .ok (.new 15, 3) := by decide +kernel
theorem dX4_init_13 : decode cX4_init 13 = .ok (.dup, 1) := by decide +kernel
theorem dX4_init_14 : decode cX4_init 14 = .ok (.invokespecial 17, 3) := by decide +kernel
theorem dX4_init_17 : decode cX4_init 17 = .ok (.putfield 18, 3) := by decide +kernel
theorem dX4_init_20 : decode cX4_init 20 = .ok (.aload_n 0, 1) := by decide +kernel
theorem dX4_init_21 : decode cX4_init 21 = .ok (.new 22, 3) := by decide +kernel
theorem dX4_init_24 : decode cX4_init 24 = .ok (.dup, 1) := by decide +kernel
theorem dX4_init_25 : decode cX4_init 25 = .ok (.invokespecial 24, 3) := by decide +kernel
theorem dX4_init_28 : decode cX4_init 28 = .ok (.putfield 25, 3) := by decide +kernel
theorem dX4_init_31 : decode cX4_init 31 = .ok (.aload_n 0, 1) := by decide +kernel
theorem dX4_init_32 : decode cX4_init 32 = .ok (.new 29, 3) := by decide +kernel
theorem dX4_init_35 : decode cX4_init 35 = .ok (.dup, 1) := by decide +kernel
theorem dX4_init_36 : decode cX4_init 36 = .ok (.invokespecial 31, 3) := by decide +kernel
theorem dX4_init_39 : decode cX4_init 39 = .ok (.putfield 32, 3) := by decide +kernel
theorem dX4_init_42 : decode cX4_init 42 = .ok (.aload_n 0, 1) := by decide +kernel
theorem dX4_init_43 : decode cX4_init 43 = .ok (.new 36, 3) := by decide +kernel
theorem dX4_init_46 : decode cX4_init 46 = .ok (.dup, 1) := by decide +kernel
theorem dX4_init_47 : decode cX4_init 47 = .ok (.invokespecial 38, 3) := by decide +kernel
theorem dX4_init_50 : decode cX4_init 50 = .ok (.putfield 39, 3) := by decide +kernel
theorem dX4_init_53 : decode cX4_init 53 = .ok (.aload_n 0, 1) := by decide +kernel
theorem dX4_init_54 : decode cX4_init 54 = .ok (.sipush 400, 3) := by decide +kernel
theorem dX4_init_57 : decode cX4_init 57 = .ok (.newarray .byte, 2) := by decide +kernel
theorem dX4_init_59 : decode cX4_init 59 = .ok (.putfield 43, 3) := by decide +kernel
theorem dX4_init_62 : decode cX4_init 62 = .ok (.aload_n 0, 1) := by decide +kernel
theorem dX4_init_63 : decode cX4_init 63 = .ok (.ldc 47, 2) := by decide +kernel
theorem dX4_init_65 : decode cX4_init 65 = .ok (.invokevirtual 49, 3) := by decide +kernel
theorem dX4_init_68 : decode cX4_init 68 = .ok (.putfield 55, 3) := by decide +kernel
theorem dX4_init_71 : decode cX4_init 71 = .ok (.return_, 1) := by decide +kernel
theorem dX4_put_0 : decode cX4_put 0 = .ok (.bipush 24, 2) := by decide +kernel
theorem dX4_put_2 : decode cX4_put 2 = .ok (.istore_n 2, 1) := by decide +kernel
theorem dX4_put_3 : decode cX4_put 3 = .ok (.iload_n 2, 1) := by decide +kernel
theorem dX4_put_4 : decode cX4_put 4 = .ok (.ifCond .lt 42, 3) := by decide +kernel
theorem dX4_put_7 : decode cX4_put 7 = .ok (.aload_n 0, 1) := by decide +kernel
theorem dX4_put_8 : decode cX4_put 8 = .ok (.getfield 59, 3) := by decide +kernel
theorem dX4_put_11 : decode cX4_put 11 = .ok (.sipush 400, 3) := by decide +kernel
theorem dX4_put_14 : decode cX4_put 14 = .ok (.if_icmp .ge 32, 3) := by decide +kernel
theorem dX4_put_17 : decode cX4_put 17 = .ok (.aload_n 0, 1) := by decide +kernel
theorem dX4_put_18 : decode cX4_put 18 = .ok (.getfield 43, 3) := by decide +kernel
theorem dX4_put_21 : decode cX4_put 21 = .ok (.aload_n 0, 1) := by decide +kernel
theorem dX4_put_22 : decode cX4_put 22 = .ok (.getfield 59, 3) := by decide +kernel
theorem dX4_put_25 : decode cX4_put 25 = .ok (.iload_n 1, 1) := by decide +kernel
theorem dX4_put_26 : decode cX4_put 26 = .ok (.iload_n 2, 1) := by decide +kernel
theorem dX4_put_27 : decode cX4_put 27 = .ok (.iushr, 1) := by decide +kernel
theorem dX4_put_28 : decode cX4_put 28 = .ok (.i2b, 1) := by decide +kernel
theorem dX4_put_29 : decode cX4_put 29 = .ok (.bastore, 1) := by decide +kernel
theorem dX4_put_30 : decode cX4_put 30 = .ok (.aload_n 0, 1) := by decide +kernel
theorem dX4_put_31 : decode cX4_put 31 = .ok (.dup, 1) := by decide +kernel
theorem dX4_put_32 : decode cX4_put 32 = .ok (.getfield 59, 3) := by decide +kernel
theorem dX4_put_35 : decode cX4_put 35 = .ok (.iconst 1, 1) := by decide +kernel
theorem dX4_put_36 : decode cX4_put 36 = .ok (.iadd, 1) := by decide +kernel
theorem dX4_put_37 : decode cX4_put 37 = .ok (.putfield 59, 3) := by decide +kernel
theorem dX4_put_40 : decode cX4_put 40 = .ok (.iinc 2 (-8), 3) := by decide +kernel
theorem dX4_put_43 : decode cX4_put 43 = .ok (.goto (-40), 3) := by decide +kernel
theorem dX4_put_46 : decode cX4_put 46 = .ok (.return_, 1) := by decide +kernel
theorem dX4_begin_0 : decode cX4_begin 0 = .ok (.aload_n 0, 1) := by decide +kernel
theorem dX4_begin_1 : decode cX4_begin 1 = .ok (.iconst 0, 1) := by decide +kernel
theorem dX4_begin_2 : decode cX4_begin 2 = .ok (.putfield 59, 3) := by decide +kernel
theorem dX4_begin_5 : decode cX4_begin 5 = .ok (.aload_n 0, 1) := by decide +kernel
theorem dX4_begin_6 : decode cX4_begin 6 = .ok (.iload_n 1, 1) := by decide +kernel
theorem dX4_begin_7 : decode cX4_begin 7 = .ok (.sipush 400, 3) := by decide +kernel
theorem dX4_begin_10 : decode cX4_begin 10 = .ok (.invokestatic 62, 3) := by decide +kernel
theorem dX4_begin_13 : decode cX4_begin 13 = .ok (.putfield 68, 3) := by decide +kernel
theorem dX4_begin_16 : decode cX4_begin 16 = .ok (.aload_n 0, 1) := by decide +kernel
theorem dX4_begin_17 : decode cX4_begin 17 = .ok (.iconst 0, 1) := by decide +kernel
theorem dX4_begin_18 : decode cX4_begin 18 = .ok (.putfield 71, 3) := by decide +kernel
theorem dX4_begin_21 : decode cX4_begin 21 = .ok (.aload_n 0, 1) := by decide +kernel
theorem dX4_begin_22 : decode cX4_begin 22 = .ok (.iconst 0, 1) := by decide +kernel
theorem dX4_begin_23 : decode cX4_begin 23 = .ok (.putfield 74, 3) := by decide +kernel
theorem dX4_begin_26 : decode cX4_begin 26 = .ok (.aload_n 0, 1) := by decide +kernel
theorem dX4_begin_27 : decode cX4_begin 27 = .ok (.iconst (-1), 1) := by decide +kernel
theorem dX4_begin_28 : decode cX4_begin 28 = .ok (.putfield 9, 3) := by decide +kernel
theorem dX4_begin_31 : decode cX4_begin 31 = .ok (.aload_n 0, 1) := by decide +kernel
theorem dX4_begin_32 : decode cX4_begin 32 = .ok (.invokevirtual 77, 3) := by decide +kernel
theorem dX4_begin_35 : decode cX4_begin 35 = .ok (.return_, 1) := by decide +kernel
theorem dX4_fail_0 : decode cX4_fail 0 = .ok (.aload_n 0, 1) := by decide +kernel
theorem dX4_fail_1 : decode cX4_fail 1 = .ok (.getfield 74, 3) := by decide +kernel
theorem dX4_fail_4 : decode cX4_fail 4 = .ok (.ifCond .ne 16, 3) := by decide +kernel
theorem dX4_fail_7 : decode cX4_fail 7 = .ok (.aload_n 0, 1) := by decide +kernel
theorem dX4_fail_8 : decode cX4_fail 8 = .ok (.iload_n 1, 1) := by decide +kernel
theorem dX4_fail_9 : decode cX4_fail 9 = .ok (.putfield 74, 3) := by decide +kernel
theorem dX4_fail_12 : decode cX4_fail 12 = .ok (.aload_n 0, 1) := by decide +kernel
theorem dX4_fail_13 : decode cX4_fail 13 = .ok (.aload_n 0, 1) := by decide +kernel
theorem dX4_fail_14 : decode cX4_fail 14 = .ok (.getfield 80, 3) := by decide +kernel
theorem dX4_fail_17 : decode cX4_fail 17 = .ok (.putfield 9, 3) := by decide +kernel
theorem dX4_fail_20 : decode cX4_fail 20 = .ok (.iconst 0, 1) := by decide +kernel
theorem dX4_fail_21 : decode cX4_fail 21 = .ok (.ireturn, 1) := by decide +kernel
theorem dX4_next_0 : decode cX4_next 0 = .ok (.aload_n 0, 1) := by decide +kernel
theorem dX4_next_1 : decode cX4_next 1 = .ok (.getfield 71, 3) := by decide +kernel
theorem dX4_next_4 : decode cX4_next 4 = .ok (.aload_n 0, 1) := by decide +kernel
theorem dX4_next_5 : decode cX4_next 5 = .ok (.getfield 68, 3) := by decide +kernel
theorem dX4_next_8 : decode cX4_next 8 = .ok (.if_icmp .ge 44, 3) := by decide +kernel
theorem dX4_next_11 : decode cX4_next 11 = .ok (.aload_n 0, 1) := by decide +kernel
theorem dX4_next_12 : decode cX4_next 12 = .ok (.getfield 43, 3) := by decide +kernel
theorem dX4_next_15 : decode cX4_next 15 = .ok (.aload_n 0, 1) := by decide +kernel
theorem dX4_next_16 : decode cX4_next 16 = .ok (.getfield 71, 3) := by decide +kernel
theorem dX4_next_19 : decode cX4_next 19 = .ok (.baload, 1) := by decide +kernel
theorem dX4_next_20 : decode cX4_next 20 = .ok (.bipush 32, 2) := by decide +kernel
theorem dX4_next_22 : decode cX4_next 22 = .ok (.if_icmp .eq 17, 3) := by decide +kernel
theorem dX4_next_25 : decode cX4_next 25 = .ok (.aload_n 0, 1) := by decide +kernel
theorem dX4_next_26 : decode cX4_next 26 = .ok (.getfield 43, 3) := by decide +kernel
theorem dX4_next_29 : decode cX4_next 29 = .ok (.aload_n 0, 1) := by decide +kernel
theorem dX4_next_30 : decode cX4_next 30 = .ok (.getfield 71, 3) := by decide +kernel
theorem dX4_next_33 : decode cX4_next 33 = .ok (.baload, 1) := by decide +kernel
theorem dX4_next_34 : decode cX4_next 34 = .ok (.bipush 10, 2) := by decide +kernel
theorem dX4_next_36 : decode cX4_next 36 = .ok (.if_icmp .ne 16, 3) := by decide +kernel
theorem dX4_next_39 : decode cX4_next 39 = .ok (.aload_n 0, 1) := by decide +kernel
theorem dX4_next_40 : decode cX4_next 40 = .ok (.dup, 1) := by decide +kernel
theorem dX4_next_41 : decode cX4_next 41 = .ok (.getfield 71, 3) := by decide +kernel
theorem dX4_next_44 : decode cX4_next 44 = .ok (.iconst 1, 1) := by decide +kernel
theorem dX4_next_45 : decode cX4_next 45 = .ok (.iadd, 1) := by decide +kernel
theorem dX4_next_46 : decode cX4_next 46 = .ok (.putfield 71, 3) := by decide +kernel
theorem dX4_next_49 : decode cX4_next 49 = .ok (.goto (-49), 3) := by decide +kernel
theorem dX4_next_52 : decode cX4_next 52 = .ok (.aload_n 0, 1) := by decide +kernel
theorem dX4_next_53 : decode cX4_next 53 = .ok (.aload_n 0, 1) := by decide +kernel
theorem dX4_next_54 : decode cX4_next 54 = .ok (.getfield 71, 3) := by decide +kernel
theorem dX4_next_57 : decode cX4_next 57 = .ok (.putfield 80, 3) := by decide +kernel
theorem dX4_next_60 : decode cX4_next 60 = .ok (.aload_n 0, 1) := by decide +kernel
theorem dX4_next_61 : decode cX4_next 61 = .ok (.getfield 71, 3) := by decide +kernel
theorem dX4_next_64 : decode cX4_next 64 = .ok (.aload_n 0, 1) := by decide +kernel
theorem dX4_next_65 : decode cX4_next 65 = .ok (.getfield 68, 3) := by decide +kernel
theorem dX4_next_68 : decode cX4_next 68 = .ok (.if_icmp .lt 12, 3) := by decide +kernel
theorem dX4_next_71 : decode cX4_next 71 = .ok (.aload_n 0, 1) := by decide +kernel
theorem dX4_next_72 : decode cX4_next 72 = .ok (.bipush 45, 2) := by decide +kernel
theorem dX4_next_74 : decode cX4_next 74 = .ok (.putfield 83, 3) := by decide +kernel
theorem dX4_next_77 : decode cX4_next 77 = .ok (.goto 95, 3) := by decide +kernel
theorem dX4_next_80 : decode cX4_next 80 = .ok (.aload_n 0, 1) := by decide +kernel
theorem dX4_next_81 : decode cX4_next 81 = .ok (.aload_n 0, 1) := by decide +kernel
theorem dX4_next_82 : decode cX4_next 82 = .ok (.getfield 71, 3) := by decide +kernel
theorem dX4_next_85 : decode cX4_next 85 = .ok (.invokevirtual 86, 3) := by decide +kernel
theorem dX4_next_88 : decode cX4_next 88 = .ok (.ifCond .eq 62, 3) := by decide +kernel
theorem dX4_next_91 : decode cX4_next 91 = .ok (.aload_n 0, 1) := by decide +kernel
theorem dX4_next_92 : decode cX4_next 92 = .ok (.getfield 71, 3) := by decide +kernel
theorem dX4_next_95 : decode cX4_next 95 = .ok (.aload_n 0, 1) := by decide +kernel
theorem dX4_next_96 : decode cX4_next 96 = .ok (.getfield 68, 3) := by decide +kernel
theorem dX4_next_99 : decode cX4_next 99 = .ok (.if_icmp .ge 27, 3) := by decide +kernel
theorem dX4_next_102 : decode cX4_next 102 = .ok (.aload_n 0, 1) := by decide +kernel
theorem dX4_next_103 : decode cX4_next 103 = .ok (.aload_n 0, 1) := by decide +kernel
theorem dX4_next_104 : decode cX4_next 104 = .ok (.getfield 71, 3) := by decide +kernel
theorem dX4_next_107 : decode cX4_next 107 = .ok (.invokevirtual 86, 3) := by decide +kernel
theorem dX4_next_110 : decode cX4_next 110 = .ok (.ifCond .eq 16, 3) := by decide +kernel
theorem dX4_next_113 : decode cX4_next 113 = .ok (.aload_n 0, 1) := by decide +kernel
theorem dX4_next_114 : decode cX4_next 114 = .ok (.dup, 1) := by decide +kernel
theorem dX4_next_115 : decode cX4_next 115 = .ok (.getfield 71, 3) := by decide +kernel
theorem dX4_next_118 : decode cX4_next 118 = .ok (.iconst 1, 1) := by decide +kernel
theorem dX4_next_119 : decode cX4_next 119 = .ok (.iadd, 1) := by decide +kernel
theorem dX4_next_120 : decode cX4_next 120 = .ok (.putfield 71, 3) := by decide +kernel
theorem dX4_next_123 : decode cX4_next 123 = .ok (.goto (-32), 3) := by decide +kernel
theorem dX4_next_126 : decode cX4_next 126 = .ok (.aload_n 0, 1) := by decide +kernel
theorem dX4_next_127 : decode cX4_next 127 = .ok (.aload_n 0, 1) := by decide +kernel
theorem dX4_next_128 : decode cX4_next 128 = .ok (.aload_n 0, 1) := by decide +kernel
theorem dX4_next_129 : decode cX4_next 129 = .ok (.getfield 80, 3) := by decide +kernel
theorem dX4_next_132 : decode cX4_next 132 = .ok (.aload_n 0, 1) := by decide +kernel
theorem dX4_next_133 : decode cX4_next 133 = .ok (.getfield 71, 3) := by decide +kernel
theorem dX4_next_136 : decode cX4_next 136 = .ok (.aload_n 0, 1) := by decide +kernel
theorem dX4_next_137 : decode cX4_next 137 = .ok (.getfield 80, 3) := by decide +kernel
theorem dX4_next_140 : decode cX4_next 140 = .ok (.isub, 1) := by decide +kernel
theorem dX4_next_141 : decode cX4_next 141 = .ok (.invokevirtual 90, 3) := by decide +kernel
theorem dX4_next_144 : decode cX4_next 144 = .ok (.putfield 83, 3) := by decide +kernel
theorem dX4_next_147 : decode cX4_next 147 = .ok (.goto 25, 3) := by decide +kernel
theorem dX4_next_150 : decode cX4_next 150 = .ok (.aload_n 0, 1) := by decide +kernel
theorem dX4_next_151 : decode cX4_next 151 = .ok (.aload_n 0, 1) := by decide +kernel
theorem dX4_next_152 : decode cX4_next 152 = .ok (.getfield 71, 3) := by decide +kernel
theorem dX4_next_155 : decode cX4_next 155 = .ok (.invokevirtual 93, 3) := by decide +kernel
theorem dX4_next_158 : decode cX4_next 158 = .ok (.ifCond .eq 10, 3) := by decide +kernel
theorem dX4_next_161 : decode cX4_next 161 = .ok (.aload_n 0, 1) := by decide +kernel
theorem dX4_next_162 : decode cX4_next 162 = .ok (.invokevirtual 96, 3) := by decide +kernel
theorem dX4_next_165 : decode cX4_next 165 = .ok (.goto 7, 3) := by decide +kernel
theorem dX4_next_168 : decode cX4_next 168 = .ok (.aload_n 0, 1) := by decide +kernel
theorem dX4_next_169 : decode cX4_next 169 = .ok (.invokevirtual 99, 3) := by decide +kernel
theorem dX4_next_172 : decode cX4_next 172 = .ok (.aload_n 0, 1) := by decide +kernel
theorem dX4_next_173 : decode cX4_next 173 = .ok (.getfield 83, 3) := by decide +kernel
theorem dX4_next_176 : decode cX4_next 176 = .ok (.bipush 46, 2) := by decide +kernel
theorem dX4_next_178 : decode cX4_next 178 = .ok (.if_icmp .ne 9, 3) := by decide +kernel
theorem dX4_next_181 : decode cX4_next 181 = .ok (.aload_n 0, 1) := by decide +kernel
theorem dX4_next_182 : decode cX4_next 182 = .ok (.iconst 1, 1) := by decide +kernel
theorem dX4_next_183 : decode cX4_next 183 = .ok (.invokevirtual 102, 3) := by decide +kernel
theorem dX4_next_186 : decode cX4_next 186 = .ok (.pop, 1) := by decide +kernel
theorem dX4_next_187 : decode cX4_next 187 = .ok (.return_, 1) := by decide +kernel
theorem dX4_isLetter_0 : decode cX4_isLetter 0 = .ok (.aload_n 0, 1) := by decide +kernel
theorem dX4_isLetter_1 : decode cX4_isLetter 1 = .ok (.getfield 43, 3) := by decide +kernel
theorem dX4_isLetter_4 : decode cX4_isLetter 4 = .ok (.iload_n 1, 1) := by decide +kernel
theorem dX4_isLetter_5 : decode cX4_isLetter 5 = .ok (.baload, 1) := by decide +kernel
theorem dX4_isLetter_6 : decode cX4_isLetter 6 = .ok (.bipush 97, 2) := by decide +kernel
theorem dX4_isLetter_8 : decode cX4_isLetter 8 = .ok (.if_icmp .lt 18, 3) := by decide +kernel
theorem dX4_isLetter_11 : decode cX4_isLetter 11 = .ok (.aload_n 0, 1) := by decide +kernel
theorem dX4_isLetter_12 : decode cX4_isLetter 12 = .ok (.getfield 43, 3) := by decide +kernel
theorem dX4_isLetter_15 : decode cX4_isLetter 15 = .ok (.iload_n 1, 1) := by decide +kernel
theorem dX4_isLetter_16 : decode cX4_isLetter 16 = .ok (.baload, 1) := by decide +kernel
theorem dX4_isLetter_17 : decode cX4_isLetter 17 = .ok (.bipush 122, 2) := by decide +kernel
theorem dX4_isLetter_19 : decode cX4_isLetter 19 = .ok (.if_icmp .gt 7, 3) := by decide +kernel
theorem dX4_isLetter_22 : decode cX4_isLetter 22 = .ok (.iconst 1, 1) := by decide +kernel
theorem dX4_isLetter_23 : decode cX4_isLetter 23 = .ok (.goto 4, 3) := by decide +kernel
theorem dX4_isLetter_26 : decode cX4_isLetter 26 = .ok (.iconst 0, 1) := by decide +kernel
theorem dX4_isLetter_27 : decode cX4_isLetter 27 = .ok (.ireturn, 1) := by decide +kernel
theorem dX4_isDigit_0 : decode cX4_isDigit 0 = .ok (.aload_n 0, 1) := by decide +kernel
theorem dX4_isDigit_1 : decode cX4_isDigit 1 = .ok (.getfield 43, 3) := by decide +kernel
theorem dX4_isDigit_4 : decode cX4_isDigit 4 = .ok (.iload_n 1, 1) := by decide +kernel
theorem dX4_isDigit_5 : decode cX4_isDigit 5 = .ok (.baload, 1) := by decide +kernel
theorem dX4_isDigit_6 : decode cX4_isDigit 6 = .ok (.bipush 48, 2) := by decide +kernel
theorem dX4_isDigit_8 : decode cX4_isDigit 8 = .ok (.if_icmp .lt 18, 3) := by decide +kernel
theorem dX4_isDigit_11 : decode cX4_isDigit 11 = .ok (.aload_n 0, 1) := by decide +kernel
theorem dX4_isDigit_12 : decode cX4_isDigit 12 = .ok (.getfield 43, 3) := by decide +kernel
theorem dX4_isDigit_15 : decode cX4_isDigit 15 = .ok (.iload_n 1, 1) := by decide +kernel
theorem dX4_isDigit_16 : decode cX4_isDigit 16 = .ok (.baload, 1) := by decide +kernel
theorem dX4_isDigit_17 : decode cX4_isDigit 17 = .ok (.bipush 57, 2) := by decide +kernel
theorem dX4_isDigit_19 : decode cX4_isDigit 19 = .ok (.if_icmp .gt 7, 3) := by decide +kernel
theorem dX4_isDigit_22 : decode cX4_isDigit 22 = .ok (.iconst 1, 1) := by decide +kernel
theorem dX4_isDigit_23 : decode cX4_isDigit 23 = .ok (.goto 4, 3) := by decide +kernel
theorem dX4_isDigit_26 : decode cX4_isDigit 26 = .ok (.iconst 0, 1) := by decide +kernel
theorem dX4_isDigit_27 : decode cX4_isDigit 27 = .ok (.ireturn, 1) := by decide +kernel
theorem dX4_wordFrom_0 : decode cX4_wordFrom 0 = .ok (.iconst 0, 1) := by decide +kernel
theorem dX4_wordFrom_1 : decode cX4_wordFrom 1 = .ok (.istore_n 3, 1) := by decide +kernel
theorem dX4_wordFrom_2 : decode cX4_wordFrom 2 = .ok (.iconst 0, 1) := by decide +kernel
theorem dX4_wordFrom_3 : decode cX4_wordFrom 3 = .ok (.istore 4, 2) := by decide +kernel
theorem dX4_wordFrom_5 : decode cX4_wordFrom 5 = .ok (.iconst 0, 1) := by decide +kernel
theorem dX4_wordFrom_6 : decode cX4_wordFrom 6 = .ok (.istore 5, 2) := by decide +kernel
theorem dX4_wordFrom_8 : decode cX4_wordFrom 8 = .ok (.iload 5, 2) := by decide +kernel
theorem dX4_wordFrom_10 : decode cX4_wordFrom 10 = .ok (.aload_n 0, 1) := by decide +kernel
theorem dX4_wordFrom_11 : decode cX4_wordFrom 11 = .ok (.getfield 55, 3) := by decide +kernel
theorem dX4_wordFrom_14 : decode cX4_wordFrom 14 = .ok (.arraylength, 1) := by decide +kernel
theorem dX4_wordFrom_15 : decode cX4_wordFrom 15 = .ok (.if_icmp .ge 76, 3) := by decide +kernel
theorem dX4_wordFrom_18 : decode cX4_wordFrom 18 = .ok (.aload_n 0, 1) := by decide +kernel
theorem dX4_wordFrom_19 : decode cX4_wordFrom 19 = .ok (.getfield 55, 3) := by decide +kernel
theorem dX4_wordFrom_22 : decode cX4_wordFrom 22 = .ok (.iload 5, 2) := by decide +kernel
theorem dX4_wordFrom_24 : decode cX4_wordFrom 24 = .ok (.caload, 1) := by decide +kernel
theorem dX4_wordFrom_25 : decode cX4_wordFrom 25 = .ok (.istore 6, 2) := by decide +kernel
theorem dX4_wordFrom_27 : decode cX4_wordFrom 27 = .ok (.iload 6, 2) := by decide +kernel
theorem dX4_wordFrom_29 : decode cX4_wordFrom 29 = .ok (.bipush 32, 2) := by decide +kernel
theorem dX4_wordFrom_31 : decode cX4_wordFrom 31 = .ok (.if_icmp .ne 20, 3) := by decide +kernel
theorem dX4_wordFrom_34 : decode cX4_wordFrom 34 = .ok (.iload 4, 2) := by decide +kernel
theorem dX4_wordFrom_36 : decode cX4_wordFrom 36 = .ok (.iload_n 2, 1) := by decide +kernel
theorem dX4_wordFrom_37 : decode cX4_wordFrom 37 = .ok (.if_icmp .ne 5, 3) := by decide +kernel
theorem dX4_wordFrom_40 : decode cX4_wordFrom 40 = .ok (.iload_n 3, 1) := by decide +kernel
theorem dX4_wordFrom_41 : decode cX4_wordFrom 41 = .ok (.ireturn, 1) := by decide +kernel
theorem dX4_wordFrom_42 : decode cX4_wordFrom 42 = .ok (.iinc 3 1, 3) := by decide +kernel
theorem dX4_wordFrom_45 : decode cX4_wordFrom 45 = .ok (.iconst 0, 1) := by decide +kernel
theorem dX4_wordFrom_46 : decode cX4_wordFrom 46 = .ok (.istore 4, 2) := by decide +kernel
theorem dX4_wordFrom_48 : decode cX4_wordFrom 48 = .ok (.goto 37, 3) := by decide +kernel
theorem dX4_wordFrom_51 : decode cX4_wordFrom 51 = .ok (.iload 4, 2) := by decide +kernel
theorem dX4_wordFrom_53 : decode cX4_wordFrom 53 = .ok (.ifCond .lt 29, 3) := by decide +kernel
theorem dX4_wordFrom_56 : decode cX4_wordFrom 56 = .ok (.iload 4, 2) := by decide +kernel
theorem dX4_wordFrom_58 : decode cX4_wordFrom 58 = .ok (.iload_n 2, 1) := by decide +kernel
theorem dX4_wordFrom_59 : decode cX4_wordFrom 59 = .ok (.if_icmp .ge 23, 3) := by decide +kernel
theorem dX4_wordFrom_62 : decode cX4_wordFrom 62 = .ok (.aload_n 0, 1) := by decide +kernel
theorem dX4_wordFrom_63 : decode cX4_wordFrom 63 = .ok (.getfield 43, 3) := by decide +kernel
theorem dX4_wordFrom_66 : decode cX4_wordFrom 66 = .ok (.iload_n 1, 1) := by decide +kernel
theorem dX4_wordFrom_67 : decode cX4_wordFrom 67 = .ok (.iload 4, 2) := by decide +kernel
theorem dX4_wordFrom_69 : decode cX4_wordFrom 69 = .ok (.iadd, 1) := by decide +kernel
theorem dX4_wordFrom_70 : decode cX4_wordFrom 70 = .ok (.baload, 1) := by decide +kernel
theorem dX4_wordFrom_71 : decode cX4_wordFrom 71 = .ok (.iload 6, 2) := by decide +kernel
theorem dX4_wordFrom_73 : decode cX4_wordFrom 73 = .ok (.if_icmp .ne 9, 3) := by decide +kernel
theorem dX4_wordFrom_76 : decode cX4_wordFrom 76 = .ok (.iinc 4 1, 3) := by decide +kernel
theorem dX4_wordFrom_79 : decode cX4_wordFrom 79 = .ok (.goto 6, 3) := by decide +kernel
theorem dX4_wordFrom_82 : decode cX4_wordFrom 82 = .ok (.iconst (-1), 1) := by decide +kernel
theorem dX4_wordFrom_83 : decode cX4_wordFrom 83 = .ok (.istore 4, 2) := by decide +kernel
theorem dX4_wordFrom_85 : decode cX4_wordFrom 85 = .ok (.iinc 5 1, 3) := by decide +kernel
theorem dX4_wordFrom_88 : decode cX4_wordFrom 88 = .ok (.goto (-80), 3) := by decide +kernel
theorem dX4_wordFrom_91 : decode cX4_wordFrom 91 = .ok (.bipush 40, 2) := by decide +kernel
theorem dX4_wordFrom_93 : decode cX4_wordFrom 93 = .ok (.ireturn, 1) := by decide +kernel
theorem dX4_takeNumber_0 : decode cX4_takeNumber 0 = .ok (.aload_n 0, 1) := by decide +kernel
theorem dX4_takeNumber_1 : decode cX4_takeNumber 1 = .ok (.iconst 0, 1) := by decide +kernel
theorem dX4_takeNumber_2 : decode cX4_takeNumber 2 = .ok (.putfield 105, 3) := by decide +kernel
theorem dX4_takeNumber_5 : decode cX4_takeNumber 5 = .ok (.aload_n 0, 1) := by decide +kernel
theorem dX4_takeNumber_6 : decode cX4_takeNumber 6 = .ok (.bipush 41, 2) := by decide +kernel
theorem dX4_takeNumber_8 : decode cX4_takeNumber 8 = .ok (.putfield 83, 3) := by decide +kernel
theorem dX4_takeNumber_11 : decode cX4_takeNumber 11 = .ok (.aload_n 0, 1) := by decide +kernel
theorem dX4_takeNumber_12 : decode cX4_takeNumber 12 = .ok (.getfield 71, 3) := by decide +kernel
theorem dX4_takeNumber_15 : decode cX4_takeNumber 15 = .ok (.aload_n 0, 1) := by decide +kernel
theorem dX4_takeNumber_16 : decode cX4_takeNumber 16 = .ok (.getfield 68, 3) := by decide +kernel
theorem dX4_takeNumber_19 : decode cX4_takeNumber 19 = .ok (.if_icmp .ge 81, 3) := by decide +kernel
theorem dX4_takeNumber_22 : decode cX4_takeNumber 22 = .ok (.aload_n 0, 1) := by decide +kernel
theorem dX4_takeNumber_23 : decode cX4_takeNumber 23 = .ok (.getfield 43, 3) := by decide +kernel
theorem dX4_takeNumber_26 : decode cX4_takeNumber 26 = .ok (.aload_n 0, 1) := by decide +kernel
theorem dX4_takeNumber_27 : decode cX4_takeNumber 27 = .ok (.getfield 71, 3) := by decide +kernel
theorem dX4_takeNumber_30 : decode cX4_takeNumber 30 = .ok (.baload, 1) := by decide +kernel
theorem dX4_takeNumber_31 : decode cX4_takeNumber 31 = .ok (.bipush 48, 2) := by decide +kernel
theorem dX4_takeNumber_33 : decode cX4_takeNumber 33 = .ok (.if_icmp .lt 67, 3) := by decide +kernel
theorem dX4_takeNumber_36 : decode cX4_takeNumber 36 = .ok (.aload_n 0, 1) := by decide +kernel
theorem dX4_takeNumber_37 : decode cX4_takeNumber 37 = .ok (.getfield 43, 3) := by decide +kernel
theorem dX4_takeNumber_40 : decode cX4_takeNumber 40 = .ok (.aload_n 0, 1) := by decide +kernel
theorem dX4_takeNumber_41 : decode cX4_takeNumber 41 = .ok (.getfield 71, 3) := by decide +kernel
theorem dX4_takeNumber_44 : decode cX4_takeNumber 44 = .ok (.baload, 1) := by decide +kernel
theorem dX4_takeNumber_45 : decode cX4_takeNumber 45 = .ok (.bipush 57, 2) := by decide +kernel
theorem dX4_takeNumber_47 : decode cX4_takeNumber 47 = .ok (.if_icmp .gt 53, 3) := by decide +kernel
theorem dX4_takeNumber_50 : decode cX4_takeNumber 50 = .ok (.aload_n 0, 1) := by decide +kernel
theorem dX4_takeNumber_51 : decode cX4_takeNumber 51 = .ok (.getfield 71, 3) := by decide +kernel
theorem dX4_takeNumber_54 : decode cX4_takeNumber 54 = .ok (.aload_n 0, 1) := by decide +kernel
theorem dX4_takeNumber_55 : decode cX4_takeNumber 55 = .ok (.getfield 80, 3) := by decide +kernel
theorem dX4_takeNumber_58 : decode cX4_takeNumber 58 = .ok (.isub, 1) := by decide +kernel
theorem dX4_takeNumber_59 : decode cX4_takeNumber 59 = .ok (.iconst 3, 1) := by decide +kernel
theorem dX4_takeNumber_60 : decode cX4_takeNumber 60 = .ok (.if_icmp .ge 27, 3) := by decide +kernel
theorem dX4_takeNumber_63 : decode cX4_takeNumber 63 = .ok (.aload_n 0, 1) := by decide +kernel
theorem dX4_takeNumber_64 : decode cX4_takeNumber 64 = .ok (.aload_n 0, 1) := by decide +kernel
theorem dX4_takeNumber_65 : decode cX4_takeNumber 65 = .ok (.getfield 105, 3) := by decide +kernel
theorem dX4_takeNumber_68 : decode cX4_takeNumber 68 = .ok (.bipush 10, 2) := by decide +kernel
theorem dX4_takeNumber_70 : decode cX4_takeNumber 70 = .ok (.imul, 1) := by decide +kernel
theorem dX4_takeNumber_71 : decode cX4_takeNumber 71 = .ok (.aload_n 0, 1) := by decide +kernel
theorem dX4_takeNumber_72 : decode cX4_takeNumber 72 = .ok (.getfield 43, 3) := by decide +kernel
theorem dX4_takeNumber_75 : decode cX4_takeNumber 75 = .ok (.aload_n 0, 1) := by decide +kernel
theorem dX4_takeNumber_76 : decode cX4_takeNumber 76 = .ok (.getfield 71, 3) := by decide +kernel
theorem dX4_takeNumber_79 : decode cX4_takeNumber 79 = .ok (.baload, 1) := by decide +kernel
theorem dX4_takeNumber_80 : decode cX4_takeNumber 80 = .ok (.bipush 48, 2) := by decide +kernel
theorem dX4_takeNumber_82 : decode cX4_takeNumber 82 = .ok (.isub, 1) := by decide +kernel
theorem dX4_takeNumber_83 : decode cX4_takeNumber 83 = .ok (.iadd, 1) := by decide +kernel
theorem dX4_takeNumber_84 : decode cX4_takeNumber 84 = .ok (.putfield 105, 3) := by decide +kernel
theorem dX4_takeNumber_87 : decode cX4_takeNumber 87 = .ok (.aload_n 0, 1) := by decide +kernel
theorem dX4_takeNumber_88 : decode cX4_takeNumber 88 = .ok (.dup, 1) := by decide +kernel
theorem dX4_takeNumber_89 : decode cX4_takeNumber 89 = .ok (.getfield 71, 3) := by decide +kernel
theorem dX4_takeNumber_92 : decode cX4_takeNumber 92 = .ok (.iconst 1, 1) := by decide +kernel
theorem dX4_takeNumber_93 : decode cX4_takeNumber 93 = .ok (.iadd, 1) := by decide +kernel
theorem dX4_takeNumber_94 : decode cX4_takeNumber 94 = .ok (.putfield 71, 3) := by decide +kernel
theorem dX4_takeNumber_97 : decode cX4_takeNumber 97 = .ok (.goto (-86), 3) := by decide +kernel
theorem dX4_takeNumber_100 : decode cX4_takeNumber 100 = .ok (.aload_n 0, 1) := by decide +kernel
theorem dX4_takeNumber_101 : decode cX4_takeNumber 101 = .ok (.getfield 71, 3) := by decide +kernel
theorem dX4_takeNumber_104 : decode cX4_takeNumber 104 = .ok (.aload_n 0, 1) := by decide +kernel
theorem dX4_takeNumber_105 : decode cX4_takeNumber 105 = .ok (.getfield 80, 3) := by decide +kernel
theorem dX4_takeNumber_108 : decode cX4_takeNumber 108 = .ok (.isub, 1) := by decide +kernel
theorem dX4_takeNumber_109 : decode cX4_takeNumber 109 = .ok (.iconst 3, 1) := by decide +kernel
theorem dX4_takeNumber_110 : decode cX4_takeNumber 110 = .ok (.if_icmp .le 9, 3) := by decide +kernel
theorem dX4_takeNumber_113 : decode cX4_takeNumber 113 = .ok (.aload_n 0, 1) := by decide +kernel
theorem dX4_takeNumber_114 : decode cX4_takeNumber 114 = .ok (.bipush 46, 2) := by decide +kernel
theorem dX4_takeNumber_116 : decode cX4_takeNumber 116 = .ok (.putfield 83, 3) := by decide +kernel
theorem dX4_takeNumber_119 : decode cX4_takeNumber 119 = .ok (.return_, 1) := by decide +kernel
theorem dX4_takeSign_0 : decode cX4_takeSign 0 = .ok (.aload_n 0, 1) := by decide +kernel
theorem dX4_takeSign_1 : decode cX4_takeSign 1 = .ok (.getfield 43, 3) := by decide +kernel
theorem dX4_takeSign_4 : decode cX4_takeSign 4 = .ok (.aload_n 0, 1) := by decide +kernel
theorem dX4_takeSign_5 : decode cX4_takeSign 5 = .ok (.getfield 71, 3) := by decide +kernel
theorem dX4_takeSign_8 : decode cX4_takeSign 8 = .ok (.baload, 1) := by decide +kernel
theorem dX4_takeSign_9 : decode cX4_takeSign 9 = .ok (.istore_n 1, 1) := by decide +kernel
theorem dX4_takeSign_10 : decode cX4_takeSign 10 = .ok (.aload_n 0, 1) := by decide +kernel
theorem dX4_takeSign_11 : decode cX4_takeSign 11 = .ok (.dup, 1) := by decide +kernel
theorem dX4_takeSign_12 : decode cX4_takeSign 12 = .ok (.getfield 71, 3) := by decide +kernel
theorem dX4_takeSign_15 : decode cX4_takeSign 15 = .ok (.iconst 1, 1) := by decide +kernel
theorem dX4_takeSign_16 : decode cX4_takeSign 16 = .ok (.iadd, 1) := by decide +kernel
theorem dX4_takeSign_17 : decode cX4_takeSign 17 = .ok (.putfield 71, 3) := by decide +kernel
theorem dX4_takeSign_20 : decode cX4_takeSign 20 = .ok (.iload_n 1, 1) := by decide +kernel
theorem dX4_takeSign_21 : decode cX4_takeSign 21 = .ok (.bipush 59, 2) := by decide +kernel
theorem dX4_takeSign_23 : decode cX4_takeSign 23 = .ok (.if_icmp .ne 12, 3) := by decide +kernel
theorem dX4_takeSign_26 : decode cX4_takeSign 26 = .ok (.aload_n 0, 1) := by decide +kernel
theorem dX4_takeSign_27 : decode cX4_takeSign 27 = .ok (.bipush 42, 2) := by decide +kernel
theorem dX4_takeSign_29 : decode cX4_takeSign 29 = .ok (.putfield 83, 3) := by decide +kernel
theorem dX4_takeSign_32 : decode cX4_takeSign 32 = .ok (.goto 39, 3) := by decide +kernel
theorem dX4_takeSign_35 : decode cX4_takeSign 35 = .ok (.iload_n 1, 1) := by decide +kernel
theorem dX4_takeSign_36 : decode cX4_takeSign 36 = .ok (.bipush 40, 2) := by decide +kernel
theorem dX4_takeSign_38 : decode cX4_takeSign 38 = .ok (.if_icmp .ne 12, 3) := by decide +kernel
theorem dX4_takeSign_41 : decode cX4_takeSign 41 = .ok (.aload_n 0, 1) := by decide +kernel
theorem dX4_takeSign_42 : decode cX4_takeSign 42 = .ok (.bipush 43, 2) := by decide +kernel
theorem dX4_takeSign_44 : decode cX4_takeSign 44 = .ok (.putfield 83, 3) := by decide +kernel
theorem dX4_takeSign_47 : decode cX4_takeSign 47 = .ok (.goto 24, 3) := by decide +kernel
theorem dX4_takeSign_50 : decode cX4_takeSign 50 = .ok (.iload_n 1, 1) := by decide +kernel
theorem dX4_takeSign_51 : decode cX4_takeSign 51 = .ok (.bipush 41, 2) := by decide +kernel
theorem dX4_takeSign_53 : decode cX4_takeSign 53 = .ok (.if_icmp .ne 12, 3) := by decide +kernel
theorem dX4_takeSign_56 : decode cX4_takeSign 56 = .ok (.aload_n 0, 1) := by decide +kernel
theorem dX4_takeSign_57 : decode cX4_takeSign 57 = .ok (.bipush 44, 2) := by decide +kernel
theorem dX4_takeSign_59 : decode cX4_takeSign 59 = .ok (.putfield 83, 3) := by decide +kernel
theorem dX4_takeSign_62 : decode cX4_takeSign 62 = .ok (.goto 9, 3) := by decide +kernel
theorem dX4_takeSign_65 : decode cX4_takeSign 65 = .ok (.aload_n 0, 1) := by decide +kernel
theorem dX4_takeSign_66 : decode cX4_takeSign 66 = .ok (.bipush 46, 2) := by decide +kernel
theorem dX4_takeSign_68 : decode cX4_takeSign 68 = .ok (.putfield 83, 3) := by decide +kernel
theorem dX4_takeSign_71 : decode cX4_takeSign 71 = .ok (.return_, 1) := by decide +kernel
theorem dX4_expect_0 : decode cX4_expect 0 = .ok (.aload_n 0, 1) := by decide +kernel
theorem dX4_expect_1 : decode cX4_expect 1 = .ok (.getfield 83, 3) := by decide +kernel
theorem dX4_expect_4 : decode cX4_expect 4 = .ok (.iload_n 1, 1) := by decide +kernel
theorem dX4_expect_5 : decode cX4_expect 5 = .ok (.if_icmp .eq 9, 3) := by decide +kernel
theorem dX4_expect_8 : decode cX4_expect 8 = .ok (.aload_n 0, 1) := by decide +kernel
theorem dX4_expect_9 : decode cX4_expect 9 = .ok (.iconst 2, 1) := by decide +kernel
theorem dX4_expect_10 : decode cX4_expect 10 = .ok (.invokevirtual 102, 3) := by decide +kernel
theorem dX4_expect_13 : decode cX4_expect 13 = .ok (.ireturn, 1) := by decide +kernel
theorem dX4_expect_14 : decode cX4_expect 14 = .ok (.aload_n 0, 1) := by decide +kernel
theorem dX4_expect_15 : decode cX4_expect 15 = .ok (.invokevirtual 77, 3) := by decide +kernel
theorem dX4_expect_18 : decode cX4_expect 18 = .ok (.iconst 1, 1) := by decide +kernel
theorem dX4_expect_19 : decode cX4_expect 19 = .ok (.ireturn, 1) := by decide +kernel
theorem dX4_numberWithin_0 : decode cX4_numberWithin 0 = .ok (.aload_n 0, 1) := by decide +kernel
theorem dX4_numberWithin_1 : decode cX4_numberWithin 1 = .ok (.getfield 83, 3) := by decide +kernel
theorem dX4_numberWithin_4 : decode cX4_numberWithin 4 = .ok (.bipush 41, 2) := by decide +kernel
theorem dX4_numberWithin_6 : decode cX4_numberWithin 6 = .ok (.if_icmp .eq 11, 3) := by decide +kernel
theorem dX4_numberWithin_9 : decode cX4_numberWithin 9 = .ok (.aload_n 0, 1) := by decide +kernel
theorem dX4_numberWithin_10 : decode cX4_numberWithin 10 = .ok (.iconst 2, 1) := by decide +kernel
theorem dX4_numberWithin_11 : decode cX4_numberWithin 11 = .ok (.invokevirtual 102, 3) := by decide +kernel
theorem dX4_numberWithin_14 : decode cX4_numberWithin 14 = .ok (.pop, 1) := by decide +kernel
theorem dX4_numberWithin_15 : decode cX4_numberWithin 15 = .ok (.iconst (-1), 1) := by decide +kernel
theorem dX4_numberWithin_16 : decode cX4_numberWithin 16 = .ok (.ireturn, 1) := by decide +kernel
theorem dX4_numberWithin_17 : decode cX4_numberWithin 17 = .ok (.aload_n 0, 1) := by decide +kernel
theorem dX4_numberWithin_18 : decode cX4_numberWithin 18 = .ok (.getfield 105, 3) := by decide +kernel
theorem dX4_numberWithin_21 : decode cX4_numberWithin 21 = .ok (.iload_n 1, 1) := by decide +kernel
theorem dX4_numberWithin_22 : decode cX4_numberWithin 22 = .ok (.if_icmp .lt 11, 3) := by decide +kernel
theorem dX4_numberWithin_25 : decode cX4_numberWithin 25 = .ok (.aload_n 0, 1) := by decide +kernel
theorem dX4_numberWithin_26 : decode cX4_numberWithin 26 = .ok (.getfield 105, 3) := by decide +kernel
theorem dX4_numberWithin_29 : decode cX4_numberWithin 29 = .ok (.iload_n 2, 1) := by decide +kernel
theorem dX4_numberWithin_30 : decode cX4_numberWithin 30 = .ok (.if_icmp .le 11, 3) := by decide +kernel
theorem dX4_numberWithin_33 : decode cX4_numberWithin 33 = .ok (.aload_n 0, 1) := by decide +kernel
theorem dX4_numberWithin_34 : decode cX4_numberWithin 34 = .ok (.iconst 3, 1) := by decide +kernel
theorem dX4_numberWithin_35 : decode cX4_numberWithin 35 = .ok (.invokevirtual 102, 3) := by decide +kernel
theorem dX4_numberWithin_38 : decode cX4_numberWithin 38 = .ok (.pop, 1) := by decide +kernel
theorem dX4_numberWithin_39 : decode cX4_numberWithin 39 = .ok (.iconst (-1), 1) := by decide +kernel
theorem dX4_numberWithin_40 : decode cX4_numberWithin 40 = .ok (.ireturn, 1) := by decide +kernel
theorem dX4_numberWithin_41 : decode cX4_numberWithin 41 = .ok (.aload_n 0, 1) := by decide +kernel
theorem dX4_numberWithin_42 : decode cX4_numberWithin 42 = .ok (.getfield 105, 3) := by decide +kernel
theorem dX4_numberWithin_45 : decode cX4_numberWithin 45 = .ok (.istore_n 3, 1) := by decide +kernel
theorem dX4_numberWithin_46 : decode cX4_numberWithin 46 = .ok (.aload_n 0, 1) := by decide +kernel
theorem dX4_numberWithin_47 : decode cX4_numberWithin 47 = .ok (.invokevirtual 77, 3) := by decide +kernel
theorem dX4_numberWithin_50 : decode cX4_numberWithin 50 = .ok (.iload_n 3, 1) := by decide +kernel
theorem dX4_numberWithin_51 : decode cX4_numberWithin 51 = .ok (.ireturn, 1) := by decide +kernel
theorem dX4_readRod_0 : decode cX4_readRod 0 = .ok (.aload_n 0, 1) := by decide +kernel
theorem dX4_readRod_1 : decode cX4_readRod 1 = .ok (.iconst 0, 1) := by decide +kernel
theorem dX4_readRod_2 : decode cX4_readRod 2 = .ok (.invokevirtual 108, 3) := by decide +kernel
theorem dX4_readRod_5 : decode cX4_readRod 5 = .ok (.ifCond .ne 5, 3) := by decide +kernel
theorem dX4_readRod_8 : decode cX4_readRod 8 = .ok (.iconst 0, 1) := by decide +kernel
theorem dX4_readRod_9 : decode cX4_readRod 9 = .ok (.ireturn, 1) := by decide +kernel
theorem dX4_readRod_10 : decode cX4_readRod 10 = .ok (.aload_n 0, 1) := by decide +kernel
theorem dX4_readRod_11 : decode cX4_readRod 11 = .ok (.getstatic 111, 3) := by decide +kernel
theorem dX4_readRod_14 : decode cX4_readRod 14 = .ok (.iconst 0, 1) := by decide +kernel
theorem dX4_readRod_15 : decode cX4_readRod 15 = .ok (.iaload, 1) := by decide +kernel
theorem dX4_readRod_16 : decode cX4_readRod 16 = .ok (.getstatic 115, 3) := by decide +kernel
theorem dX4_readRod_19 : decode cX4_readRod 19 = .ok (.iconst 0, 1) := by decide +kernel
theorem dX4_readRod_20 : decode cX4_readRod 20 = .ok (.iaload, 1) := by decide +kernel
theorem dX4_readRod_21 : decode cX4_readRod 21 = .ok (.invokevirtual 118, 3) := by decide +kernel
theorem dX4_readRod_24 : decode cX4_readRod 24 = .ok (.istore_n 1, 1) := by decide +kernel
theorem dX4_readRod_25 : decode cX4_readRod 25 = .ok (.iload_n 1, 1) := by decide +kernel
theorem dX4_readRod_26 : decode cX4_readRod 26 = .ok (.iconst (-1), 1) := by decide +kernel
theorem dX4_readRod_27 : decode cX4_readRod 27 = .ok (.if_icmp .eq 12, 3) := by decide +kernel
theorem dX4_readRod_30 : decode cX4_readRod 30 = .ok (.aload_n 0, 1) := by decide +kernel
theorem dX4_readRod_31 : decode cX4_readRod 31 = .ok (.bipush 42, 2) := by decide +kernel
theorem dX4_readRod_33 : decode cX4_readRod 33 = .ok (.invokevirtual 108, 3) := by decide +kernel
theorem dX4_readRod_36 : decode cX4_readRod 36 = .ok (.ifCond .ne 5, 3) := by decide +kernel
theorem dX4_readRod_39 : decode cX4_readRod 39 = .ok (.iconst 0, 1) := by decide +kernel
theorem dX4_readRod_40 : decode cX4_readRod 40 = .ok (.ireturn, 1) := by decide +kernel
theorem dX4_readRod_41 : decode cX4_readRod 41 = .ok (.aload_n 0, 1) := by decide +kernel
theorem dX4_readRod_42 : decode cX4_readRod 42 = .ok (.getfield 18, 3) := by decide +kernel
theorem dX4_readRod_45 : decode cX4_readRod 45 = .ok (.iload_n 1, 1) := by decide +kernel
theorem dX4_readRod_46 : decode cX4_readRod 46 = .ok (.invokevirtual 121, 3) := by decide +kernel
theorem dX4_readRod_49 : decode cX4_readRod 49 = .ok (.iconst 1, 1) := by decide +kernel
theorem dX4_readRod_50 : decode cX4_readRod 50 = .ok (.istore_n 2, 1) := by decide +kernel
theorem dX4_readRod_51 : decode cX4_readRod 51 = .ok (.iload_n 2, 1) := by decide +kernel
theorem dX4_readRod_52 : decode cX4_readRod 52 = .ok (.bipush 24, 2) := by decide +kernel
theorem dX4_readRod_54 : decode cX4_readRod 54 = .ok (.if_icmp .gt 30, 3) := by decide +kernel
theorem dX4_readRod_57 : decode cX4_readRod 57 = .ok (.aload_n 0, 1) := by decide +kernel
theorem dX4_readRod_58 : decode cX4_readRod 58 = .ok (.getfield 83, 3) := by decide +kernel
theorem dX4_readRod_61 : decode cX4_readRod 61 = .ok (.bipush 45, 2) := by decide +kernel
theorem dX4_readRod_63 : decode cX4_readRod 63 = .ok (.if_icmp .ne 5, 3) := by decide +kernel
theorem dX4_readRod_66 : decode cX4_readRod 66 = .ok (.iload_n 2, 1) := by decide +kernel
theorem dX4_readRod_67 : decode cX4_readRod 67 = .ok (.ireturn, 1) := by decide +kernel
theorem dX4_readRod_68 : decode cX4_readRod 68 = .ok (.aload_n 0, 1) := by decide +kernel
theorem dX4_readRod_69 : decode cX4_readRod 69 = .ok (.iload_n 2, 1) := by decide +kernel
theorem dX4_readRod_70 : decode cX4_readRod 70 = .ok (.invokevirtual 125, 3) := by decide +kernel
theorem dX4_readRod_73 : decode cX4_readRod 73 = .ok (.ifCond .ne 5, 3) := by decide +kernel
theorem dX4_readRod_76 : decode cX4_readRod 76 = .ok (.iconst 0, 1) := by decide +kernel
theorem dX4_readRod_77 : decode cX4_readRod 77 = .ok (.ireturn, 1) := by decide +kernel
theorem dX4_readRod_78 : decode cX4_readRod 78 = .ok (.iinc 2 1, 3) := by decide +kernel
theorem dX4_readRod_81 : decode cX4_readRod 81 = .ok (.goto (-30), 3) := by decide +kernel
theorem dX4_readRod_84 : decode cX4_readRod 84 = .ok (.iconst 0, 1) := by decide +kernel
theorem dX4_readRod_85 : decode cX4_readRod 85 = .ok (.ireturn, 1) := by decide +kernel
theorem dX4_readRodLine_0 : decode cX4_readRodLine 0 = .ok (.aload_n 0, 1) := by decide +kernel
theorem dX4_readRodLine_1 : decode cX4_readRodLine 1 = .ok (.getfield 83, 3) := by decide +kernel
theorem dX4_readRodLine_4 : decode cX4_readRodLine 4 = .ok (.istore_n 2, 1) := by decide +kernel
theorem dX4_readRodLine_5 : decode cX4_readRodLine 5 = .ok (.iload_n 2, 1) := by decide +kernel
theorem dX4_readRodLine_6 : decode cX4_readRodLine 6 = .ok (.iconst 1, 1) := by decide +kernel
theorem dX4_readRodLine_7 : decode cX4_readRodLine 7 = .ok (.if_icmp .lt 9, 3) := by decide +kernel
theorem dX4_readRodLine_10 : decode cX4_readRodLine 10 = .ok (.iload_n 2, 1) := by decide +kernel
theorem dX4_readRodLine_11 : decode cX4_readRodLine 11 = .ok (.bipush 6, 2) := by decide +kernel
theorem dX4_readRodLine_13 : decode cX4_readRodLine 13 = .ok (.if_icmp .le 9, 3) := by decide +kernel
theorem dX4_readRodLine_16 : decode cX4_readRodLine 16 = .ok (.aload_n 0, 1) := by decide +kernel
theorem dX4_readRodLine_17 : decode cX4_readRodLine 17 = .ok (.iconst 2, 1) := by decide +kernel
theorem dX4_readRodLine_18 : decode cX4_readRodLine 18 = .ok (.invokevirtual 102, 3) := by decide +kernel
theorem dX4_readRodLine_21 : decode cX4_readRodLine 21 = .ok (.ireturn, 1) := by decide +kernel
theorem dX4_readRodLine_22 : decode cX4_readRodLine 22 = .ok (.iload_n 1, 1) := by decide +kernel
theorem dX4_readRodLine_23 : decode cX4_readRodLine 23 = .ok (.bipush 24, 2) := by decide +kernel
theorem dX4_readRodLine_25 : decode cX4_readRodLine 25 = .ok (.if_icmp .ne 9, 3) := by decide +kernel
theorem dX4_readRodLine_28 : decode cX4_readRodLine 28 = .ok (.aload_n 0, 1) := by decide +kernel
theorem dX4_readRodLine_29 : decode cX4_readRodLine 29 = .ok (.iconst 4, 1) := by decide +kernel
theorem dX4_readRodLine_30 : decode cX4_readRodLine 30 = .ok (.invokevirtual 102, 3) := by decide +kernel
theorem dX4_readRodLine_33 : decode cX4_readRodLine 33 = .ok (.ireturn, 1) := by decide +kernel
theorem dX4_readRodLine_34 : decode cX4_readRodLine 34 = .ok (.aload_n 0, 1) := by decide +kernel
theorem dX4_readRodLine_35 : decode cX4_readRodLine 35 = .ok (.invokevirtual 77, 3) := by decide +kernel
theorem dX4_readRodLine_38 : decode cX4_readRodLine 38 = .ok (.iload_n 2, 1) := by decide +kernel
theorem dX4_readRodLine_39 : decode cX4_readRodLine 39 = .ok (.iconst 3, 1) := by decide +kernel
theorem dX4_readRodLine_40 : decode cX4_readRodLine 40 = .ok (.if_icmp .ne 7, 3) := by decide +kernel
theorem dX4_readRodLine_43 : decode cX4_readRodLine 43 = .ok (.iconst 1, 1) := by decide +kernel
theorem dX4_readRodLine_44 : decode cX4_readRodLine 44 = .ok (.goto 4, 3) := by decide +kernel
theorem dX4_readRodLine_47 : decode cX4_readRodLine 47 = .ok (.iconst 2, 1) := by decide +kernel
theorem dX4_readRodLine_48 : decode cX4_readRodLine 48 = .ok (.istore_n 3, 1) := by decide +kernel
theorem dX4_readRodLine_49 : decode cX4_readRodLine 49 = .ok (.iload_n 2, 1) := by decide +kernel
theorem dX4_readRodLine_50 : decode cX4_readRodLine 50 = .ok (.iconst 3, 1) := by decide +kernel
theorem dX4_readRodLine_51 : decode cX4_readRodLine 51 = .ok (.if_icmp .eq 23, 3) := by decide +kernel
theorem dX4_readRodLine_54 : decode cX4_readRodLine 54 = .ok (.iload_n 2, 1) := by decide +kernel
theorem dX4_readRodLine_55 : decode cX4_readRodLine 55 = .ok (.iconst 4, 1) := by decide +kernel
theorem dX4_readRodLine_56 : decode cX4_readRodLine 56 = .ok (.if_icmp .eq 18, 3) := by decide +kernel
theorem dX4_readRodLine_59 : decode cX4_readRodLine 59 = .ok (.aload_n 0, 1) := by decide +kernel
theorem dX4_readRodLine_60 : decode cX4_readRodLine 60 = .ok (.getstatic 111, 3) := by decide +kernel
theorem dX4_readRodLine_63 : decode cX4_readRodLine 63 = .ok (.iload_n 2, 1) := by decide +kernel
theorem dX4_readRodLine_64 : decode cX4_readRodLine 64 = .ok (.iaload, 1) := by decide +kernel
theorem dX4_readRodLine_65 : decode cX4_readRodLine 65 = .ok (.getstatic 115, 3) := by decide +kernel
theorem dX4_readRodLine_68 : decode cX4_readRodLine 68 = .ok (.iload_n 2, 1) := by decide +kernel
theorem dX4_readRodLine_69 : decode cX4_readRodLine 69 = .ok (.iaload, 1) := by decide +kernel
theorem dX4_readRodLine_70 : decode cX4_readRodLine 70 = .ok (.invokevirtual 118, 3) := by decide +kernel
theorem dX4_readRodLine_73 : decode cX4_readRodLine 73 = .ok (.istore_n 3, 1) := by decide +kernel
theorem dX4_readRodLine_74 : decode cX4_readRodLine 74 = .ok (.iload_n 3, 1) := by decide +kernel
theorem dX4_readRodLine_75 : decode cX4_readRodLine 75 = .ok (.iconst (-1), 1) := by decide +kernel
theorem dX4_readRodLine_76 : decode cX4_readRodLine 76 = .ok (.if_icmp .ne 5, 3) := by decide +kernel
theorem dX4_readRodLine_79 : decode cX4_readRodLine 79 = .ok (.iconst 0, 1) := by decide +kernel
theorem dX4_readRodLine_80 : decode cX4_readRodLine 80 = .ok (.ireturn, 1) := by decide +kernel
theorem dX4_readRodLine_81 : decode cX4_readRodLine 81 = .ok (.iload_n 2, 1) := by decide +kernel
theorem dX4_readRodLine_82 : decode cX4_readRodLine 82 = .ok (.bipush 6, 2) := by decide +kernel
theorem dX4_readRodLine_84 : decode cX4_readRodLine 84 = .ok (.if_icmp .ne 14, 3) := by decide +kernel
theorem dX4_readRodLine_87 : decode cX4_readRodLine 87 = .ok (.aload_n 0, 1) := by decide +kernel
theorem dX4_readRodLine_88 : decode cX4_readRodLine 88 = .ok (.getfield 18, 3) := by decide +kernel
theorem dX4_readRodLine_91 : decode cX4_readRodLine 91 = .ok (.iload_n 3, 1) := by decide +kernel
theorem dX4_readRodLine_92 : decode cX4_readRodLine 92 = .ok (.putfield 128, 3) := by decide +kernel
theorem dX4_readRodLine_95 : decode cX4_readRodLine 95 = .ok (.goto 14, 3) := by decide +kernel
theorem dX4_readRodLine_98 : decode cX4_readRodLine 98 = .ok (.aload_n 0, 1) := by decide +kernel
theorem dX4_readRodLine_99 : decode cX4_readRodLine 99 = .ok (.iload_n 2, 1) := by decide +kernel
theorem dX4_readRodLine_100 : decode cX4_readRodLine 100 = .ok (.iload_n 3, 1) := by decide +kernel
theorem dX4_readRodLine_101 : decode cX4_readRodLine 101 = .ok (.invokevirtual 131, 3) := by decide +kernel
theorem dX4_readRodLine_104 : decode cX4_readRodLine 104 = .ok (.ifCond .ne 5, 3) := by decide +kernel
theorem dX4_readRodLine_107 : decode cX4_readRodLine 107 = .ok (.iconst 0, 1) := by decide +kernel
theorem dX4_readRodLine_108 : decode cX4_readRodLine 108 = .ok (.ireturn, 1) := by decide +kernel
theorem dX4_readRodLine_109 : decode cX4_readRodLine 109 = .ok (.aload_n 0, 1) := by decide +kernel
theorem dX4_readRodLine_110 : decode cX4_readRodLine 110 = .ok (.bipush 42, 2) := by decide +kernel
theorem dX4_readRodLine_112 : decode cX4_readRodLine 112 = .ok (.invokevirtual 108, 3) := by decide +kernel
theorem dX4_readRodLine_115 : decode cX4_readRodLine 115 = .ok (.ireturn, 1) := by decide +kernel
theorem dX4_readSpans_0 : decode cX4_readSpans 0 = .ok (.aload_n 0, 1) := by decide +kernel
theorem dX4_readSpans_1 : decode cX4_readSpans 1 = .ok (.getfield 83, 3) := by decide +kernel
theorem dX4_readSpans_4 : decode cX4_readSpans 4 = .ok (.bipush 7, 2) := by decide +kernel
theorem dX4_readSpans_6 : decode cX4_readSpans 6 = .ok (.if_icmp .eq 24, 3) := by decide +kernel
theorem dX4_readSpans_9 : decode cX4_readSpans 9 = .ok (.aload_n 0, 1) := by decide +kernel
theorem dX4_readSpans_10 : decode cX4_readSpans 10 = .ok (.getfield 18, 3) := by decide +kernel
theorem dX4_readSpans_13 : decode cX4_readSpans 13 = .ok (.iload_n 1, 1) := by decide +kernel
theorem dX4_readSpans_14 : decode cX4_readSpans 14 = .ok (.iconst 0, 1) := by decide +kernel
theorem dX4_readSpans_15 : decode cX4_readSpans 15 = .ok (.aload_n 0, 1) := by decide +kernel
theorem dX4_readSpans_16 : decode cX4_readSpans 16 = .ok (.getfield 18, 3) := by decide +kernel
theorem dX4_readSpans_19 : decode cX4_readSpans 19 = .ok (.getfield 135, 3) := by decide +kernel
theorem dX4_readSpans_22 : decode cX4_readSpans 22 = .ok (.iconst 1, 1) := by decide +kernel
theorem dX4_readSpans_23 : decode cX4_readSpans 23 = .ok (.isub, 1) := by decide +kernel
theorem dX4_readSpans_24 : decode cX4_readSpans 24 = .ok (.iload_n 2, 1) := by decide +kernel
theorem dX4_readSpans_25 : decode cX4_readSpans 25 = .ok (.invokevirtual 138, 3) := by decide +kernel
theorem dX4_readSpans_28 : decode cX4_readSpans 28 = .ok (.iconst 1, 1) := by decide +kernel
theorem dX4_readSpans_29 : decode cX4_readSpans 29 = .ok (.ireturn, 1) := by decide +kernel
theorem dX4_readSpans_30 : decode cX4_readSpans 30 = .ok (.iconst 0, 1) := by decide +kernel
theorem dX4_readSpans_31 : decode cX4_readSpans 31 = .ok (.istore_n 3, 1) := by decide +kernel
theorem dX4_readSpans_32 : decode cX4_readSpans 32 = .ok (.iload_n 3, 1) := by decide +kernel
theorem dX4_readSpans_33 : decode cX4_readSpans 33 = .ok (.sipush 400, 3) := by decide +kernel
theorem dX4_readSpans_36 : decode cX4_readSpans 36 = .ok (.if_icmp .ge 99, 3) := by decide +kernel
theorem dX4_readSpans_39 : decode cX4_readSpans 39 = .ok (.aload_n 0, 1) := by decide +kernel
theorem dX4_readSpans_40 : decode cX4_readSpans 40 = .ok (.getfield 83, 3) := by decide +kernel
theorem dX4_readSpans_43 : decode cX4_readSpans 43 = .ok (.bipush 7, 2) := by decide +kernel
theorem dX4_readSpans_45 : decode cX4_readSpans 45 = .ok (.if_icmp .ne 90, 3) := by decide +kernel
theorem dX4_readSpans_48 : decode cX4_readSpans 48 = .ok (.aload_n 0, 1) := by decide +kernel
theorem dX4_readSpans_49 : decode cX4_readSpans 49 = .ok (.invokevirtual 77, 3) := by decide +kernel
theorem dX4_readSpans_52 : decode cX4_readSpans 52 = .ok (.aload_n 0, 1) := by decide +kernel
theorem dX4_readSpans_53 : decode cX4_readSpans 53 = .ok (.iconst 0, 1) := by decide +kernel
theorem dX4_readSpans_54 : decode cX4_readSpans 54 = .ok (.aload_n 0, 1) := by decide +kernel
theorem dX4_readSpans_55 : decode cX4_readSpans 55 = .ok (.getfield 18, 3) := by decide +kernel
theorem dX4_readSpans_58 : decode cX4_readSpans 58 = .ok (.getfield 135, 3) := by decide +kernel
theorem dX4_readSpans_61 : decode cX4_readSpans 61 = .ok (.iconst 1, 1) := by decide +kernel
theorem dX4_readSpans_62 : decode cX4_readSpans 62 = .ok (.isub, 1) := by decide +kernel
theorem dX4_readSpans_63 : decode cX4_readSpans 63 = .ok (.invokevirtual 118, 3) := by decide +kernel
theorem dX4_readSpans_66 : decode cX4_readSpans 66 = .ok (.istore 4, 2) := by decide +kernel
theorem dX4_readSpans_68 : decode cX4_readSpans 68 = .ok (.iload 4, 2) := by decide +kernel
theorem dX4_readSpans_70 : decode cX4_readSpans 70 = .ok (.istore 5, 2) := by decide +kernel
theorem dX4_readSpans_72 : decode cX4_readSpans 72 = .ok (.iload 4, 2) := by decide +kernel
theorem dX4_readSpans_74 : decode cX4_readSpans 74 = .ok (.iconst (-1), 1) := by decide +kernel
theorem dX4_readSpans_75 : decode cX4_readSpans 75 = .ok (.if_icmp .eq 33, 3) := by decide +kernel
theorem dX4_readSpans_78 : decode cX4_readSpans 78 = .ok (.aload_n 0, 1) := by decide +kernel
theorem dX4_readSpans_79 : decode cX4_readSpans 79 = .ok (.getfield 83, 3) := by decide +kernel
theorem dX4_readSpans_82 : decode cX4_readSpans 82 = .ok (.bipush 8, 2) := by decide +kernel
theorem dX4_readSpans_84 : decode cX4_readSpans 84 = .ok (.if_icmp .ne 24, 3) := by decide +kernel
theorem dX4_readSpans_87 : decode cX4_readSpans 87 = .ok (.aload_n 0, 1) := by decide +kernel
theorem dX4_readSpans_88 : decode cX4_readSpans 88 = .ok (.invokevirtual 77, 3) := by decide +kernel
theorem dX4_readSpans_91 : decode cX4_readSpans 91 = .ok (.aload_n 0, 1) := by decide +kernel
theorem dX4_readSpans_92 : decode cX4_readSpans 92 = .ok (.iload 4, 2) := by decide +kernel
theorem dX4_readSpans_94 : decode cX4_readSpans 94 = .ok (.aload_n 0, 1) := by decide +kernel
theorem dX4_readSpans_95 : decode cX4_readSpans 95 = .ok (.getfield 18, 3) := by decide +kernel
theorem dX4_readSpans_98 : decode cX4_readSpans 98 = .ok (.getfield 135, 3) := by decide +kernel
theorem dX4_readSpans_101 : decode cX4_readSpans 101 = .ok (.iconst 1, 1) := by decide +kernel
theorem dX4_readSpans_102 : decode cX4_readSpans 102 = .ok (.isub, 1) := by decide +kernel
theorem dX4_readSpans_103 : decode cX4_readSpans 103 = .ok (.invokevirtual 118, 3) := by decide +kernel
theorem dX4_readSpans_106 : decode cX4_readSpans 106 = .ok (.istore 5, 2) := by decide +kernel
theorem dX4_readSpans_108 : decode cX4_readSpans 108 = .ok (.iload 5, 2) := by decide +kernel
theorem dX4_readSpans_110 : decode cX4_readSpans 110 = .ok (.iconst (-1), 1) := by decide +kernel
theorem dX4_readSpans_111 : decode cX4_readSpans 111 = .ok (.if_icmp .ne 5, 3) := by decide +kernel
theorem dX4_readSpans_114 : decode cX4_readSpans 114 = .ok (.iconst 0, 1) := by decide +kernel
theorem dX4_readSpans_115 : decode cX4_readSpans 115 = .ok (.ireturn, 1) := by decide +kernel
theorem dX4_readSpans_116 : decode cX4_readSpans 116 = .ok (.aload_n 0, 1) := by decide +kernel
theorem dX4_readSpans_117 : decode cX4_readSpans 117 = .ok (.getfield 18, 3) := by decide +kernel
theorem dX4_readSpans_120 : decode cX4_readSpans 120 = .ok (.iload_n 1, 1) := by decide +kernel
theorem dX4_readSpans_121 : decode cX4_readSpans 121 = .ok (.iload 4, 2) := by decide +kernel
theorem dX4_readSpans_123 : decode cX4_readSpans 123 = .ok (.iload 5, 2) := by decide +kernel
theorem dX4_readSpans_125 : decode cX4_readSpans 125 = .ok (.iload_n 2, 1) := by decide +kernel
theorem dX4_readSpans_126 : decode cX4_readSpans 126 = .ok (.invokevirtual 138, 3) := by decide +kernel
theorem dX4_readSpans_129 : decode cX4_readSpans 129 = .ok (.iinc 3 1, 3) := by decide +kernel
theorem dX4_readSpans_132 : decode cX4_readSpans 132 = .ok (.goto (-100), 3) := by decide +kernel
theorem dX4_readSpans_135 : decode cX4_readSpans 135 = .ok (.iconst 1, 1) := by decide +kernel
theorem dX4_readSpans_136 : decode cX4_readSpans 136 = .ok (.ireturn, 1) := by decide +kernel
theorem dX4_readDoings_0 : decode cX4_readDoings 0 = .ok (.aload_n 0, 1) := by decide +kernel
theorem dX4_readDoings_1 : decode cX4_readDoings 1 = .ok (.getfield 25, 3) := by decide +kernel
theorem dX4_readDoings_4 : decode cX4_readDoings 4 = .ok (.iconst 0, 1) := by decide +kernel
theorem dX4_readDoings_5 : decode cX4_readDoings 5 = .ok (.putfield 142, 3) := by decide +kernel
theorem dX4_readDoings_8 : decode cX4_readDoings 8 = .ok (.iconst 0, 1) := by decide +kernel
theorem dX4_readDoings_9 : decode cX4_readDoings 9 = .ok (.istore_n 1, 1) := by decide +kernel
theorem dX4_readDoings_10 : decode cX4_readDoings 10 = .ok (.iload_n 1, 1) := by decide +kernel
theorem dX4_readDoings_11 : decode cX4_readDoings 11 = .ok (.bipush 12, 2) := by decide +kernel
theorem dX4_readDoings_13 : decode cX4_readDoings 13 = .ok (.if_icmp .gt 30, 3) := by decide +kernel
theorem dX4_readDoings_16 : decode cX4_readDoings 16 = .ok (.aload_n 0, 1) := by decide +kernel
theorem dX4_readDoings_17 : decode cX4_readDoings 17 = .ok (.getfield 83, 3) := by decide +kernel
theorem dX4_readDoings_20 : decode cX4_readDoings 20 = .ok (.bipush 45, 2) := by decide +kernel
theorem dX4_readDoings_22 : decode cX4_readDoings 22 = .ok (.if_icmp .ne 5, 3) := by decide +kernel
theorem dX4_readDoings_25 : decode cX4_readDoings 25 = .ok (.iload_n 1, 1) := by decide +kernel
theorem dX4_readDoings_26 : decode cX4_readDoings 26 = .ok (.ireturn, 1) := by decide +kernel
theorem dX4_readDoings_27 : decode cX4_readDoings 27 = .ok (.aload_n 0, 1) := by decide +kernel
theorem dX4_readDoings_28 : decode cX4_readDoings 28 = .ok (.iload_n 1, 1) := by decide +kernel
theorem dX4_readDoings_29 : decode cX4_readDoings 29 = .ok (.invokevirtual 145, 3) := by decide +kernel
theorem dX4_readDoings_32 : decode cX4_readDoings 32 = .ok (.ifCond .ne 5, 3) := by decide +kernel
theorem dX4_readDoings_35 : decode cX4_readDoings 35 = .ok (.iconst 0, 1) := by decide +kernel
theorem dX4_readDoings_36 : decode cX4_readDoings 36 = .ok (.ireturn, 1) := by decide +kernel
theorem dX4_readDoings_37 : decode cX4_readDoings 37 = .ok (.iinc 1 1, 3) := by decide +kernel
theorem dX4_readDoings_40 : decode cX4_readDoings 40 = .ok (.goto (-30), 3) := by decide +kernel
theorem dX4_readDoings_43 : decode cX4_readDoings 43 = .ok (.iconst 0, 1) := by decide +kernel
theorem dX4_readDoings_44 : decode cX4_readDoings 44 = .ok (.ireturn, 1) := by decide +kernel
theorem dX4_readStep_0 : decode cX4_readStep 0 = .ok (.aload_n 0, 1) := by decide +kernel
theorem dX4_readStep_1 : decode cX4_readStep 1 = .ok (.getfield 83, 3) := by decide +kernel
theorem dX4_readStep_4 : decode cX4_readStep 4 = .ok (.istore_n 2, 1) := by decide +kernel
theorem dX4_readStep_5 : decode cX4_readStep 5 = .ok (.iload_n 2, 1) := by decide +kernel
theorem dX4_readStep_6 : decode cX4_readStep 6 = .ok (.bipush 9, 2) := by decide +kernel
theorem dX4_readStep_8 : decode cX4_readStep 8 = .ok (.if_icmp .lt 9, 3) := by decide +kernel
theorem dX4_readStep_11 : decode cX4_readStep 11 = .ok (.iload_n 2, 1) := by decide +kernel
theorem dX4_readStep_12 : decode cX4_readStep 12 = .ok (.bipush 12, 2) := by decide +kernel
theorem dX4_readStep_14 : decode cX4_readStep 14 = .ok (.if_icmp .le 9, 3) := by decide +kernel
theorem dX4_readStep_17 : decode cX4_readStep 17 = .ok (.aload_n 0, 1) := by decide +kernel
theorem dX4_readStep_18 : decode cX4_readStep 18 = .ok (.iconst 2, 1) := by decide +kernel
theorem dX4_readStep_19 : decode cX4_readStep 19 = .ok (.invokevirtual 102, 3) := by decide +kernel
theorem dX4_readStep_22 : decode cX4_readStep 22 = .ok (.ireturn, 1) := by decide +kernel
theorem dX4_readStep_23 : decode cX4_readStep 23 = .ok (.iload_n 1, 1) := by decide +kernel
theorem dX4_readStep_24 : decode cX4_readStep 24 = .ok (.bipush 12, 2) := by decide +kernel
theorem dX4_readStep_26 : decode cX4_readStep 26 = .ok (.if_icmp .ne 9, 3) := by decide +kernel
theorem dX4_readStep_29 : decode cX4_readStep 29 = .ok (.aload_n 0, 1) := by decide +kernel
theorem dX4_readStep_30 : decode cX4_readStep 30 = .ok (.iconst 4, 1) := by decide +kernel
theorem dX4_readStep_31 : decode cX4_readStep 31 = .ok (.invokevirtual 102, 3) := by decide +kernel
theorem dX4_readStep_34 : decode cX4_readStep 34 = .ok (.ireturn, 1) := by decide +kernel
theorem dX4_readStep_35 : decode cX4_readStep 35 = .ok (.aload_n 0, 1) := by decide +kernel
theorem dX4_readStep_36 : decode cX4_readStep 36 = .ok (.invokevirtual 77, 3) := by decide +kernel
theorem dX4_readStep_39 : decode cX4_readStep 39 = .ok (.iload_n 2, 1) := by decide +kernel
theorem dX4_readStep_40 : decode cX4_readStep 40 = .ok (.bipush 12, 2) := by decide +kernel
theorem dX4_readStep_42 : decode cX4_readStep 42 = .ok (.if_icmp .ne 7, 3) := by decide +kernel
theorem dX4_readStep_45 : decode cX4_readStep 45 = .ok (.iconst 0, 1) := by decide +kernel
theorem dX4_readStep_46 : decode cX4_readStep 46 = .ok (.goto 17, 3) := by decide +kernel
theorem dX4_readStep_49 : decode cX4_readStep 49 = .ok (.aload_n 0, 1) := by decide +kernel
theorem dX4_readStep_50 : decode cX4_readStep 50 = .ok (.getstatic 111, 3) := by decide +kernel
theorem dX4_readStep_53 : decode cX4_readStep 53 = .ok (.iload_n 2, 1) := by decide +kernel
theorem dX4_readStep_54 : decode cX4_readStep 54 = .ok (.iaload, 1) := by decide +kernel
theorem dX4_readStep_55 : decode cX4_readStep 55 = .ok (.getstatic 115, 3) := by decide +kernel
theorem dX4_readStep_58 : decode cX4_readStep 58 = .ok (.iload_n 2, 1) := by decide +kernel
theorem dX4_readStep_59 : decode cX4_readStep 59 = .ok (.iaload, 1) := by decide +kernel
theorem dX4_readStep_60 : decode cX4_readStep 60 = .ok (.invokevirtual 118, 3) := by decide +kernel
theorem dX4_readStep_63 : decode cX4_readStep 63 = .ok (.istore_n 3, 1) := by decide +kernel
theorem dX4_readStep_64 : decode cX4_readStep 64 = .ok (.iload_n 3, 1) := by decide +kernel
theorem dX4_readStep_65 : decode cX4_readStep 65 = .ok (.iconst (-1), 1) := by decide +kernel
theorem dX4_readStep_66 : decode cX4_readStep 66 = .ok (.if_icmp .eq 12, 3) := by decide +kernel
theorem dX4_readStep_69 : decode cX4_readStep 69 = .ok (.aload_n 0, 1) := by decide +kernel
theorem dX4_readStep_70 : decode cX4_readStep 70 = .ok (.bipush 13, 2) := by decide +kernel
theorem dX4_readStep_72 : decode cX4_readStep 72 = .ok (.invokevirtual 108, 3) := by decide +kernel
theorem dX4_readStep_75 : decode cX4_readStep 75 = .ok (.ifCond .ne 5, 3) := by decide +kernel
theorem dX4_readStep_78 : decode cX4_readStep 78 = .ok (.iconst 0, 1) := by decide +kernel
theorem dX4_readStep_79 : decode cX4_readStep 79 = .ok (.ireturn, 1) := by decide +kernel
theorem dX4_readStep_80 : decode cX4_readStep 80 = .ok (.aload_n 0, 1) := by decide +kernel
theorem dX4_readStep_81 : decode cX4_readStep 81 = .ok (.getstatic 111, 3) := by decide +kernel
theorem dX4_readStep_84 : decode cX4_readStep 84 = .ok (.bipush 13, 2) := by decide +kernel
theorem dX4_readStep_86 : decode cX4_readStep 86 = .ok (.iaload, 1) := by decide +kernel
theorem dX4_readStep_87 : decode cX4_readStep 87 = .ok (.getstatic 115, 3) := by decide +kernel
theorem dX4_readStep_90 : decode cX4_readStep 90 = .ok (.bipush 13, 2) := by decide +kernel
theorem dX4_readStep_92 : decode cX4_readStep 92 = .ok (.iaload, 1) := by decide +kernel
theorem dX4_readStep_93 : decode cX4_readStep 93 = .ok (.invokevirtual 118, 3) := by decide +kernel
theorem dX4_readStep_96 : decode cX4_readStep 96 = .ok (.istore 4, 2) := by decide +kernel
theorem dX4_readStep_98 : decode cX4_readStep 98 = .ok (.iload 4, 2) := by decide +kernel
theorem dX4_readStep_100 : decode cX4_readStep 100 = .ok (.iconst (-1), 1) := by decide +kernel
theorem dX4_readStep_101 : decode cX4_readStep 101 = .ok (.if_icmp .eq 12, 3) := by decide +kernel
theorem dX4_readStep_104 : decode cX4_readStep 104 = .ok (.aload_n 0, 1) := by decide +kernel
theorem dX4_readStep_105 : decode cX4_readStep 105 = .ok (.bipush 42, 2) := by decide +kernel
theorem dX4_readStep_107 : decode cX4_readStep 107 = .ok (.invokevirtual 108, 3) := by decide +kernel
theorem dX4_readStep_110 : decode cX4_readStep 110 = .ok (.ifCond .ne 5, 3) := by decide +kernel
theorem dX4_readStep_113 : decode cX4_readStep 113 = .ok (.iconst 0, 1) := by decide +kernel
theorem dX4_readStep_114 : decode cX4_readStep 114 = .ok (.ireturn, 1) := by decide +kernel
theorem dX4_readStep_115 : decode cX4_readStep 115 = .ok (.aload_n 0, 1) := by decide +kernel
theorem dX4_readStep_116 : decode cX4_readStep 116 = .ok (.getfield 25, 3) := by decide +kernel
theorem dX4_readStep_119 : decode cX4_readStep 119 = .ok (.iload_n 2, 1) := by decide +kernel
theorem dX4_readStep_120 : decode cX4_readStep 120 = .ok (.iload_n 3, 1) := by decide +kernel
theorem dX4_readStep_121 : decode cX4_readStep 121 = .ok (.iload 4, 2) := by decide +kernel
theorem dX4_readStep_123 : decode cX4_readStep 123 = .ok (.invokevirtual 148, 3) := by decide +kernel
theorem dX4_readStep_126 : decode cX4_readStep 126 = .ok (.iconst 1, 1) := by decide +kernel
theorem dX4_readStep_127 : decode cX4_readStep 127 = .ok (.ireturn, 1) := by decide +kernel
theorem dX4_readLaw_0 : decode cX4_readLaw 0 = .ok (.aload_n 0, 1) := by decide +kernel
theorem dX4_readLaw_1 : decode cX4_readLaw 1 = .ok (.getfield 32, 3) := by decide +kernel
theorem dX4_readLaw_4 : decode cX4_readLaw 4 = .ok (.invokevirtual 151, 3) := by decide +kernel
theorem dX4_readLaw_7 : decode cX4_readLaw 7 = .ok (.iconst 0, 1) := by decide +kernel
theorem dX4_readLaw_8 : decode cX4_readLaw 8 = .ok (.istore_n 1, 1) := by decide +kernel
theorem dX4_readLaw_9 : decode cX4_readLaw 9 = .ok (.iload_n 1, 1) := by decide +kernel
theorem dX4_readLaw_10 : decode cX4_readLaw 10 = .ok (.bipush 24, 2) := by decide +kernel
theorem dX4_readLaw_12 : decode cX4_readLaw 12 = .ok (.if_icmp .gt 38, 3) := by decide +kernel
theorem dX4_readLaw_15 : decode cX4_readLaw 15 = .ok (.aload_n 0, 1) := by decide +kernel
theorem dX4_readLaw_16 : decode cX4_readLaw 16 = .ok (.getfield 83, 3) := by decide +kernel
theorem dX4_readLaw_19 : decode cX4_readLaw 19 = .ok (.bipush 45, 2) := by decide +kernel
theorem dX4_readLaw_21 : decode cX4_readLaw 21 = .ok (.if_icmp .ne 13, 3) := by decide +kernel
theorem dX4_readLaw_24 : decode cX4_readLaw 24 = .ok (.aload_n 0, 1) := by decide +kernel
theorem dX4_readLaw_25 : decode cX4_readLaw 25 = .ok (.getfield 32, 3) := by decide +kernel
theorem dX4_readLaw_28 : decode cX4_readLaw 28 = .ok (.iload_n 1, 1) := by decide +kernel
theorem dX4_readLaw_29 : decode cX4_readLaw 29 = .ok (.putfield 153, 3) := by decide +kernel
theorem dX4_readLaw_32 : decode cX4_readLaw 32 = .ok (.iload_n 1, 1) := by decide +kernel
theorem dX4_readLaw_33 : decode cX4_readLaw 33 = .ok (.ireturn, 1) := by decide +kernel
theorem dX4_readLaw_34 : decode cX4_readLaw 34 = .ok (.aload_n 0, 1) := by decide +kernel
theorem dX4_readLaw_35 : decode cX4_readLaw 35 = .ok (.iload_n 1, 1) := by decide +kernel
theorem dX4_readLaw_36 : decode cX4_readLaw 36 = .ok (.invokevirtual 154, 3) := by decide +kernel
theorem dX4_readLaw_39 : decode cX4_readLaw 39 = .ok (.ifCond .ne 5, 3) := by decide +kernel
theorem dX4_readLaw_42 : decode cX4_readLaw 42 = .ok (.iconst 0, 1) := by decide +kernel
theorem dX4_readLaw_43 : decode cX4_readLaw 43 = .ok (.ireturn, 1) := by decide +kernel
theorem dX4_readLaw_44 : decode cX4_readLaw 44 = .ok (.iinc 1 1, 3) := by decide +kernel
theorem dX4_readLaw_47 : decode cX4_readLaw 47 = .ok (.goto (-38), 3) := by decide +kernel
theorem dX4_readLaw_50 : decode cX4_readLaw 50 = .ok (.iconst 0, 1) := by decide +kernel
theorem dX4_readLaw_51 : decode cX4_readLaw 51 = .ok (.ireturn, 1) := by decide +kernel
theorem dX4_readLawLine_0 : decode cX4_readLawLine 0 = .ok (.aload_n 0, 1) := by decide +kernel
theorem dX4_readLawLine_1 : decode cX4_readLawLine 1 = .ok (.getfield 83, 3) := by decide +kernel
theorem dX4_readLawLine_4 : decode cX4_readLawLine 4 = .ok (.istore_n 2, 1) := by decide +kernel
theorem dX4_readLawLine_5 : decode cX4_readLawLine 5 = .ok (.iload_n 2, 1) := by decide +kernel
theorem dX4_readLawLine_6 : decode cX4_readLawLine 6 = .ok (.bipush 14, 2) := by decide +kernel
theorem dX4_readLawLine_8 : decode cX4_readLawLine 8 = .ok (.if_icmp .lt 9, 3) := by decide +kernel
theorem dX4_readLawLine_11 : decode cX4_readLawLine 11 = .ok (.iload_n 2, 1) := by decide +kernel
theorem dX4_readLawLine_12 : decode cX4_readLawLine 12 = .ok (.bipush 21, 2) := by decide +kernel
theorem dX4_readLawLine_14 : decode cX4_readLawLine 14 = .ok (.if_icmp .le 9, 3) := by decide +kernel
theorem dX4_readLawLine_17 : decode cX4_readLawLine 17 = .ok (.aload_n 0, 1) := by decide +kernel
theorem dX4_readLawLine_18 : decode cX4_readLawLine 18 = .ok (.iconst 2, 1) := by decide +kernel
theorem dX4_readLawLine_19 : decode cX4_readLawLine 19 = .ok (.invokevirtual 102, 3) := by decide +kernel
theorem dX4_readLawLine_22 : decode cX4_readLawLine 22 = .ok (.ireturn, 1) := by decide +kernel
theorem dX4_readLawLine_23 : decode cX4_readLawLine 23 = .ok (.iload_n 1, 1) := by decide +kernel
theorem dX4_readLawLine_24 : decode cX4_readLawLine 24 = .ok (.bipush 24, 2) := by decide +kernel
theorem dX4_readLawLine_26 : decode cX4_readLawLine 26 = .ok (.if_icmp .ne 9, 3) := by decide +kernel
theorem dX4_readLawLine_29 : decode cX4_readLawLine 29 = .ok (.aload_n 0, 1) := by decide +kernel
theorem dX4_readLawLine_30 : decode cX4_readLawLine 30 = .ok (.iconst 4, 1) := by decide +kernel
theorem dX4_readLawLine_31 : decode cX4_readLawLine 31 = .ok (.invokevirtual 102, 3) := by decide +kernel
theorem dX4_readLawLine_34 : decode cX4_readLawLine 34 = .ok (.ireturn, 1) := by decide +kernel
theorem dX4_readLawLine_35 : decode cX4_readLawLine 35 = .ok (.aload_n 0, 1) := by decide +kernel
theorem dX4_readLawLine_36 : decode cX4_readLawLine 36 = .ok (.invokevirtual 77, 3) := by decide +kernel
theorem dX4_readLawLine_39 : decode cX4_readLawLine 39 = .ok (.aload_n 0, 1) := by decide +kernel
theorem dX4_readLawLine_40 : decode cX4_readLawLine 40 = .ok (.getstatic 111, 3) := by decide +kernel
theorem dX4_readLawLine_43 : decode cX4_readLawLine 43 = .ok (.iload_n 2, 1) := by decide +kernel
theorem dX4_readLawLine_44 : decode cX4_readLawLine 44 = .ok (.iaload, 1) := by decide +kernel
theorem dX4_readLawLine_45 : decode cX4_readLawLine 45 = .ok (.getstatic 115, 3) := by decide +kernel
theorem dX4_readLawLine_48 : decode cX4_readLawLine 48 = .ok (.iload_n 2, 1) := by decide +kernel
theorem dX4_readLawLine_49 : decode cX4_readLawLine 49 = .ok (.iaload, 1) := by decide +kernel
theorem dX4_readLawLine_50 : decode cX4_readLawLine 50 = .ok (.invokevirtual 118, 3) := by decide +kernel
theorem dX4_readLawLine_53 : decode cX4_readLawLine 53 = .ok (.istore_n 3, 1) := by decide +kernel
theorem dX4_readLawLine_54 : decode cX4_readLawLine 54 = .ok (.iload_n 3, 1) := by decide +kernel
theorem dX4_readLawLine_55 : decode cX4_readLawLine 55 = .ok (.iconst (-1), 1) := by decide +kernel
theorem dX4_readLawLine_56 : decode cX4_readLawLine 56 = .ok (.if_icmp .ne 5, 3) := by decide +kernel
theorem dX4_readLawLine_59 : decode cX4_readLawLine 59 = .ok (.iconst 0, 1) := by decide +kernel
theorem dX4_readLawLine_60 : decode cX4_readLawLine 60 = .ok (.ireturn, 1) := by decide +kernel
theorem dX4_readLawLine_61 : decode cX4_readLawLine 61 = .ok (.aload_n 0, 1) := by decide +kernel
theorem dX4_readLawLine_62 : decode cX4_readLawLine 62 = .ok (.getfield 32, 3) := by decide +kernel
theorem dX4_readLawLine_65 : decode cX4_readLawLine 65 = .ok (.getfield 157, 3) := by decide +kernel
theorem dX4_readLawLine_68 : decode cX4_readLawLine 68 = .ok (.iload_n 2, 1) := by decide +kernel
theorem dX4_readLawLine_69 : decode cX4_readLawLine 69 = .ok (.bipush 14, 2) := by decide +kernel
theorem dX4_readLawLine_71 : decode cX4_readLawLine 71 = .ok (.isub, 1) := by decide +kernel
theorem dX4_readLawLine_72 : decode cX4_readLawLine 72 = .ok (.iload_n 3, 1) := by decide +kernel
theorem dX4_readLawLine_73 : decode cX4_readLawLine 73 = .ok (.iastore, 1) := by decide +kernel
theorem dX4_readLawLine_74 : decode cX4_readLawLine 74 = .ok (.aload_n 0, 1) := by decide +kernel
theorem dX4_readLawLine_75 : decode cX4_readLawLine 75 = .ok (.bipush 42, 2) := by decide +kernel
theorem dX4_readLawLine_77 : decode cX4_readLawLine 77 = .ok (.invokevirtual 108, 3) := by decide +kernel
theorem dX4_readLawLine_80 : decode cX4_readLawLine 80 = .ok (.ireturn, 1) := by decide +kernel
theorem dX4_readLooks_0 : decode cX4_readLooks 0 = .ok (.aload_n 0, 1) := by decide +kernel
theorem dX4_readLooks_1 : decode cX4_readLooks 1 = .ok (.getfield 39, 3) := by decide +kernel
theorem dX4_readLooks_4 : decode cX4_readLooks 4 = .ok (.invokevirtual 160, 3) := by decide +kernel
theorem dX4_readLooks_7 : decode cX4_readLooks 7 = .ok (.iconst 0, 1) := by decide +kernel
theorem dX4_readLooks_8 : decode cX4_readLooks 8 = .ok (.istore_n 1, 1) := by decide +kernel
theorem dX4_readLooks_9 : decode cX4_readLooks 9 = .ok (.iload_n 1, 1) := by decide +kernel
theorem dX4_readLooks_10 : decode cX4_readLooks 10 = .ok (.bipush 8, 2) := by decide +kernel
theorem dX4_readLooks_12 : decode cX4_readLooks 12 = .ok (.if_icmp .gt 115, 3) := by decide +kernel
theorem dX4_readLooks_15 : decode cX4_readLooks 15 = .ok (.aload_n 0, 1) := by decide +kernel
theorem dX4_readLooks_16 : decode cX4_readLooks 16 = .ok (.getfield 83, 3) := by decide +kernel
theorem dX4_readLooks_19 : decode cX4_readLooks 19 = .ok (.bipush 45, 2) := by decide +kernel
theorem dX4_readLooks_21 : decode cX4_readLooks 21 = .ok (.if_icmp .ne 5, 3) := by decide +kernel
theorem dX4_readLooks_24 : decode cX4_readLooks 24 = .ok (.iload_n 1, 1) := by decide +kernel
theorem dX4_readLooks_25 : decode cX4_readLooks 25 = .ok (.ireturn, 1) := by decide +kernel
theorem dX4_readLooks_26 : decode cX4_readLooks 26 = .ok (.aload_n 0, 1) := by decide +kernel
theorem dX4_readLooks_27 : decode cX4_readLooks 27 = .ok (.getfield 83, 3) := by decide +kernel
theorem dX4_readLooks_30 : decode cX4_readLooks 30 = .ok (.bipush 22, 2) := by decide +kernel
theorem dX4_readLooks_32 : decode cX4_readLooks 32 = .ok (.if_icmp .ne 17, 3) := by decide +kernel
theorem dX4_readLooks_35 : decode cX4_readLooks 35 = .ok (.iload_n 1, 1) := by decide +kernel
theorem dX4_readLooks_36 : decode cX4_readLooks 36 = .ok (.bipush 8, 2) := by decide +kernel
theorem dX4_readLooks_38 : decode cX4_readLooks 38 = .ok (.if_icmp .ne 11, 3) := by decide +kernel
theorem dX4_readLooks_41 : decode cX4_readLooks 41 = .ok (.aload_n 0, 1) := by decide +kernel
theorem dX4_readLooks_42 : decode cX4_readLooks 42 = .ok (.iconst 4, 1) := by decide +kernel
theorem dX4_readLooks_43 : decode cX4_readLooks 43 = .ok (.invokevirtual 102, 3) := by decide +kernel
theorem dX4_readLooks_46 : decode cX4_readLooks 46 = .ok (.pop, 1) := by decide +kernel
theorem dX4_readLooks_47 : decode cX4_readLooks 47 = .ok (.iconst 0, 1) := by decide +kernel
theorem dX4_readLooks_48 : decode cX4_readLooks 48 = .ok (.ireturn, 1) := by decide +kernel
theorem dX4_readLooks_49 : decode cX4_readLooks 49 = .ok (.aload_n 0, 1) := by decide +kernel
theorem dX4_readLooks_50 : decode cX4_readLooks 50 = .ok (.bipush 22, 2) := by decide +kernel
theorem dX4_readLooks_52 : decode cX4_readLooks 52 = .ok (.invokevirtual 108, 3) := by decide +kernel
theorem dX4_readLooks_55 : decode cX4_readLooks 55 = .ok (.ifCond .eq 12, 3) := by decide +kernel
theorem dX4_readLooks_58 : decode cX4_readLooks 58 = .ok (.aload_n 0, 1) := by decide +kernel
theorem dX4_readLooks_59 : decode cX4_readLooks 59 = .ok (.bipush 23, 2) := by decide +kernel
theorem dX4_readLooks_61 : decode cX4_readLooks 61 = .ok (.invokevirtual 108, 3) := by decide +kernel
theorem dX4_readLooks_64 : decode cX4_readLooks 64 = .ok (.ifCond .ne 5, 3) := by decide +kernel
theorem dX4_readLooks_67 : decode cX4_readLooks 67 = .ok (.iconst 0, 1) := by decide +kernel
theorem dX4_readLooks_68 : decode cX4_readLooks 68 = .ok (.ireturn, 1) := by decide +kernel
theorem dX4_readLooks_69 : decode cX4_readLooks 69 = .ok (.aload_n 0, 1) := by decide +kernel
theorem dX4_readLooks_70 : decode cX4_readLooks 70 = .ok (.getfield 39, 3) := by decide +kernel
theorem dX4_readLooks_73 : decode cX4_readLooks 73 = .ok (.getfield 161, 3) := by decide +kernel
theorem dX4_readLooks_76 : decode cX4_readLooks 76 = .ok (.iload_n 1, 1) := by decide +kernel
theorem dX4_readLooks_77 : decode cX4_readLooks 77 = .ok (.iconst 1, 1) := by decide +kernel
theorem dX4_readLooks_78 : decode cX4_readLooks 78 = .ok (.iadd, 1) := by decide +kernel
theorem dX4_readLooks_79 : decode cX4_readLooks 79 = .ok (.aload_n 0, 1) := by decide +kernel
theorem dX4_readLooks_80 : decode cX4_readLooks 80 = .ok (.getfield 39, 3) := by decide +kernel
theorem dX4_readLooks_83 : decode cX4_readLooks 83 = .ok (.getfield 161, 3) := by decide +kernel
theorem dX4_readLooks_86 : decode cX4_readLooks 86 = .ok (.iload_n 1, 1) := by decide +kernel
theorem dX4_readLooks_87 : decode cX4_readLooks 87 = .ok (.iaload, 1) := by decide +kernel
theorem dX4_readLooks_88 : decode cX4_readLooks 88 = .ok (.iastore, 1) := by decide +kernel
theorem dX4_readLooks_89 : decode cX4_readLooks 89 = .ok (.aload_n 0, 1) := by decide +kernel
theorem dX4_readLooks_90 : decode cX4_readLooks 90 = .ok (.iconst 0, 1) := by decide +kernel
theorem dX4_readLooks_91 : decode cX4_readLooks 91 = .ok (.invokevirtual 164, 3) := by decide +kernel
theorem dX4_readLooks_94 : decode cX4_readLooks 94 = .ok (.ifCond .eq 12, 3) := by decide +kernel
theorem dX4_readLooks_97 : decode cX4_readLooks 97 = .ok (.aload_n 0, 1) := by decide +kernel
theorem dX4_readLooks_98 : decode cX4_readLooks 98 = .ok (.bipush 42, 2) := by decide +kernel
theorem dX4_readLooks_100 : decode cX4_readLooks 100 = .ok (.invokevirtual 108, 3) := by decide +kernel
theorem dX4_readLooks_103 : decode cX4_readLooks 103 = .ok (.ifCond .ne 5, 3) := by decide +kernel
theorem dX4_readLooks_106 : decode cX4_readLooks 106 = .ok (.iconst 0, 1) := by decide +kernel
theorem dX4_readLooks_107 : decode cX4_readLooks 107 = .ok (.ireturn, 1) := by decide +kernel
theorem dX4_readLooks_108 : decode cX4_readLooks 108 = .ok (.aload_n 0, 1) := by decide +kernel
theorem dX4_readLooks_109 : decode cX4_readLooks 109 = .ok (.getfield 39, 3) := by decide +kernel
theorem dX4_readLooks_112 : decode cX4_readLooks 112 = .ok (.dup, 1) := by decide +kernel
theorem dX4_readLooks_113 : decode cX4_readLooks 113 = .ok (.getfield 167, 3) := by decide +kernel
theorem dX4_readLooks_116 : decode cX4_readLooks 116 = .ok (.iconst 1, 1) := by decide +kernel
theorem dX4_readLooks_117 : decode cX4_readLooks 117 = .ok (.iadd, 1) := by decide +kernel
theorem dX4_readLooks_118 : decode cX4_readLooks 118 = .ok (.putfield 167, 3) := by decide +kernel
theorem dX4_readLooks_121 : decode cX4_readLooks 121 = .ok (.iinc 1 1, 3) := by decide +kernel
theorem dX4_readLooks_124 : decode cX4_readLooks 124 = .ok (.goto (-115), 3) := by decide +kernel
theorem dX4_readLooks_127 : decode cX4_readLooks 127 = .ok (.iconst 0, 1) := by decide +kernel
theorem dX4_readLooks_128 : decode cX4_readLooks 128 = .ok (.ireturn, 1) := by decide +kernel
theorem dX4_readAnyOf_0 : decode cX4_readAnyOf 0 = .ok (.aload_n 0, 1) := by decide +kernel
theorem dX4_readAnyOf_1 : decode cX4_readAnyOf 1 = .ok (.iload_n 1, 1) := by decide +kernel
theorem dX4_readAnyOf_2 : decode cX4_readAnyOf 2 = .ok (.invokevirtual 168, 3) := by decide +kernel
theorem dX4_readAnyOf_5 : decode cX4_readAnyOf 5 = .ok (.istore_n 2, 1) := by decide +kernel
theorem dX4_readAnyOf_6 : decode cX4_readAnyOf 6 = .ok (.iconst 0, 1) := by decide +kernel
theorem dX4_readAnyOf_7 : decode cX4_readAnyOf 7 = .ok (.istore_n 3, 1) := by decide +kernel
theorem dX4_readAnyOf_8 : decode cX4_readAnyOf 8 = .ok (.iload_n 3, 1) := by decide +kernel
theorem dX4_readAnyOf_9 : decode cX4_readAnyOf 9 = .ok (.sipush 400, 3) := by decide +kernel
theorem dX4_readAnyOf_12 : decode cX4_readAnyOf 12 = .ok (.if_icmp .ge 42, 3) := by decide +kernel
theorem dX4_readAnyOf_15 : decode cX4_readAnyOf 15 = .ok (.iload_n 2, 1) := by decide +kernel
theorem dX4_readAnyOf_16 : decode cX4_readAnyOf 16 = .ok (.ifCond .eq 38, 3) := by decide +kernel
theorem dX4_readAnyOf_19 : decode cX4_readAnyOf 19 = .ok (.aload_n 0, 1) := by decide +kernel
theorem dX4_readAnyOf_20 : decode cX4_readAnyOf 20 = .ok (.getfield 83, 3) := by decide +kernel
theorem dX4_readAnyOf_23 : decode cX4_readAnyOf 23 = .ok (.bipush 24, 2) := by decide +kernel
theorem dX4_readAnyOf_25 : decode cX4_readAnyOf 25 = .ok (.if_icmp .ne 29, 3) := by decide +kernel
theorem dX4_readAnyOf_28 : decode cX4_readAnyOf 28 = .ok (.aload_n 0, 1) := by decide +kernel
theorem dX4_readAnyOf_29 : decode cX4_readAnyOf 29 = .ok (.invokevirtual 77, 3) := by decide +kernel
theorem dX4_readAnyOf_32 : decode cX4_readAnyOf 32 = .ok (.aload_n 0, 1) := by decide +kernel
theorem dX4_readAnyOf_33 : decode cX4_readAnyOf 33 = .ok (.iload_n 1, 1) := by decide +kernel
theorem dX4_readAnyOf_34 : decode cX4_readAnyOf 34 = .ok (.invokevirtual 168, 3) := by decide +kernel
theorem dX4_readAnyOf_37 : decode cX4_readAnyOf 37 = .ok (.istore_n 2, 1) := by decide +kernel
theorem dX4_readAnyOf_38 : decode cX4_readAnyOf 38 = .ok (.aload_n 0, 1) := by decide +kernel
theorem dX4_readAnyOf_39 : decode cX4_readAnyOf 39 = .ok (.getfield 39, 3) := by decide +kernel
theorem dX4_readAnyOf_42 : decode cX4_readAnyOf 42 = .ok (.bipush 24, 2) := by decide +kernel
theorem dX4_readAnyOf_44 : decode cX4_readAnyOf 44 = .ok (.iconst 0, 1) := by decide +kernel
theorem dX4_readAnyOf_45 : decode cX4_readAnyOf 45 = .ok (.invokevirtual 171, 3) := by decide +kernel
theorem dX4_readAnyOf_48 : decode cX4_readAnyOf 48 = .ok (.iinc 3 1, 3) := by decide +kernel
theorem dX4_readAnyOf_51 : decode cX4_readAnyOf 51 = .ok (.goto (-43), 3) := by decide +kernel
theorem dX4_readAnyOf_54 : decode cX4_readAnyOf 54 = .ok (.iload_n 2, 1) := by decide +kernel
theorem dX4_readAnyOf_55 : decode cX4_readAnyOf 55 = .ok (.ireturn, 1) := by decide +kernel
theorem dX4_readAllOf_0 : decode cX4_readAllOf 0 = .ok (.aload_n 0, 1) := by decide +kernel
theorem dX4_readAllOf_1 : decode cX4_readAllOf 1 = .ok (.iload_n 1, 1) := by decide +kernel
theorem dX4_readAllOf_2 : decode cX4_readAllOf 2 = .ok (.invokevirtual 174, 3) := by decide +kernel
theorem dX4_readAllOf_5 : decode cX4_readAllOf 5 = .ok (.istore_n 2, 1) := by decide +kernel
theorem dX4_readAllOf_6 : decode cX4_readAllOf 6 = .ok (.iconst 0, 1) := by decide +kernel
theorem dX4_readAllOf_7 : decode cX4_readAllOf 7 = .ok (.istore_n 3, 1) := by decide +kernel
theorem dX4_readAllOf_8 : decode cX4_readAllOf 8 = .ok (.iload_n 3, 1) := by decide +kernel
theorem dX4_readAllOf_9 : decode cX4_readAllOf 9 = .ok (.sipush 400, 3) := by decide +kernel
theorem dX4_readAllOf_12 : decode cX4_readAllOf 12 = .ok (.if_icmp .ge 42, 3) := by decide +kernel
theorem dX4_readAllOf_15 : decode cX4_readAllOf 15 = .ok (.iload_n 2, 1) := by decide +kernel
theorem dX4_readAllOf_16 : decode cX4_readAllOf 16 = .ok (.ifCond .eq 38, 3) := by decide +kernel
theorem dX4_readAllOf_19 : decode cX4_readAllOf 19 = .ok (.aload_n 0, 1) := by decide +kernel
theorem dX4_readAllOf_20 : decode cX4_readAllOf 20 = .ok (.getfield 83, 3) := by decide +kernel
theorem dX4_readAllOf_23 : decode cX4_readAllOf 23 = .ok (.bipush 25, 2) := by decide +kernel
theorem dX4_readAllOf_25 : decode cX4_readAllOf 25 = .ok (.if_icmp .ne 29, 3) := by decide +kernel
theorem dX4_readAllOf_28 : decode cX4_readAllOf 28 = .ok (.aload_n 0, 1) := by decide +kernel
theorem dX4_readAllOf_29 : decode cX4_readAllOf 29 = .ok (.invokevirtual 77, 3) := by decide +kernel
theorem dX4_readAllOf_32 : decode cX4_readAllOf 32 = .ok (.aload_n 0, 1) := by decide +kernel
theorem dX4_readAllOf_33 : decode cX4_readAllOf 33 = .ok (.iload_n 1, 1) := by decide +kernel
theorem dX4_readAllOf_34 : decode cX4_readAllOf 34 = .ok (.invokevirtual 174, 3) := by decide +kernel
theorem dX4_readAllOf_37 : decode cX4_readAllOf 37 = .ok (.istore_n 2, 1) := by decide +kernel
theorem dX4_readAllOf_38 : decode cX4_readAllOf 38 = .ok (.aload_n 0, 1) := by decide +kernel
theorem dX4_readAllOf_39 : decode cX4_readAllOf 39 = .ok (.getfield 39, 3) := by decide +kernel
theorem dX4_readAllOf_42 : decode cX4_readAllOf 42 = .ok (.bipush 25, 2) := by decide +kernel
theorem dX4_readAllOf_44 : decode cX4_readAllOf 44 = .ok (.iconst 0, 1) := by decide +kernel
theorem dX4_readAllOf_45 : decode cX4_readAllOf 45 = .ok (.invokevirtual 171, 3) := by decide +kernel
theorem dX4_readAllOf_48 : decode cX4_readAllOf 48 = .ok (.iinc 3 1, 3) := by decide +kernel
theorem dX4_readAllOf_51 : decode cX4_readAllOf 51 = .ok (.goto (-43), 3) := by decide +kernel
theorem dX4_readAllOf_54 : decode cX4_readAllOf 54 = .ok (.iload_n 2, 1) := by decide +kernel
theorem dX4_readAllOf_55 : decode cX4_readAllOf 55 = .ok (.ireturn, 1) := by decide +kernel
theorem dX4_readFact_0 : decode cX4_readFact 0 = .ok (.aload_n 0, 1) := by decide +kernel
theorem dX4_readFact_1 : decode cX4_readFact 1 = .ok (.getfield 83, 3) := by decide +kernel
theorem dX4_readFact_4 : decode cX4_readFact 4 = .ok (.istore_n 2, 1) := by decide +kernel
theorem dX4_readFact_5 : decode cX4_readFact 5 = .ok (.iload_n 2, 1) := by decide +kernel
theorem dX4_readFact_6 : decode cX4_readFact 6 = .ok (.bipush 26, 2) := by decide +kernel
theorem dX4_readFact_8 : decode cX4_readFact 8 = .ok (.if_icmp .eq 9, 3) := by decide +kernel
theorem dX4_readFact_11 : decode cX4_readFact 11 = .ok (.iload_n 2, 1) := by decide +kernel
theorem dX4_readFact_12 : decode cX4_readFact 12 = .ok (.bipush 43, 2) := by decide +kernel
theorem dX4_readFact_14 : decode cX4_readFact 14 = .ok (.if_icmp .ne 70, 3) := by decide +kernel
theorem dX4_readFact_17 : decode cX4_readFact 17 = .ok (.iload_n 1, 1) := by decide +kernel
theorem dX4_readFact_18 : decode cX4_readFact 18 = .ok (.bipush 8, 2) := by decide +kernel
theorem dX4_readFact_20 : decode cX4_readFact 20 = .ok (.if_icmp .lt 9, 3) := by decide +kernel
theorem dX4_readFact_23 : decode cX4_readFact 23 = .ok (.aload_n 0, 1) := by decide +kernel
theorem dX4_readFact_24 : decode cX4_readFact 24 = .ok (.iconst 5, 1) := by decide +kernel
theorem dX4_readFact_25 : decode cX4_readFact 25 = .ok (.invokevirtual 102, 3) := by decide +kernel
theorem dX4_readFact_28 : decode cX4_readFact 28 = .ok (.ireturn, 1) := by decide +kernel
theorem dX4_readFact_29 : decode cX4_readFact 29 = .ok (.aload_n 0, 1) := by decide +kernel
theorem dX4_readFact_30 : decode cX4_readFact 30 = .ok (.invokevirtual 77, 3) := by decide +kernel
theorem dX4_readFact_33 : decode cX4_readFact 33 = .ok (.iload_n 2, 1) := by decide +kernel
theorem dX4_readFact_34 : decode cX4_readFact 34 = .ok (.bipush 43, 2) := by decide +kernel
theorem dX4_readFact_36 : decode cX4_readFact 36 = .ok (.if_icmp .ne 28, 3) := by decide +kernel
theorem dX4_readFact_39 : decode cX4_readFact 39 = .ok (.aload_n 0, 1) := by decide +kernel
theorem dX4_readFact_40 : decode cX4_readFact 40 = .ok (.iload_n 1, 1) := by decide +kernel
theorem dX4_readFact_41 : decode cX4_readFact 41 = .ok (.iconst 1, 1) := by decide +kernel
theorem dX4_readFact_42 : decode cX4_readFact 42 = .ok (.iadd, 1) := by decide +kernel
theorem dX4_readFact_43 : decode cX4_readFact 43 = .ok (.invokevirtual 164, 3) := by decide +kernel
theorem dX4_readFact_46 : decode cX4_readFact 46 = .ok (.ifCond .eq 16, 3) := by decide +kernel
theorem dX4_readFact_49 : decode cX4_readFact 49 = .ok (.aload_n 0, 1) := by decide +kernel
theorem dX4_readFact_50 : decode cX4_readFact 50 = .ok (.bipush 44, 2) := by decide +kernel
theorem dX4_readFact_52 : decode cX4_readFact 52 = .ok (.invokevirtual 108, 3) := by decide +kernel
theorem dX4_readFact_55 : decode cX4_readFact 55 = .ok (.ifCond .eq 7, 3) := by decide +kernel
theorem dX4_readFact_58 : decode cX4_readFact 58 = .ok (.iconst 1, 1) := by decide +kernel
theorem dX4_readFact_59 : decode cX4_readFact 59 = .ok (.goto 4, 3) := by decide +kernel
theorem dX4_readFact_62 : decode cX4_readFact 62 = .ok (.iconst 0, 1) := by decide +kernel
theorem dX4_readFact_63 : decode cX4_readFact 63 = .ok (.ireturn, 1) := by decide +kernel
theorem dX4_readFact_64 : decode cX4_readFact 64 = .ok (.aload_n 0, 1) := by decide +kernel
theorem dX4_readFact_65 : decode cX4_readFact 65 = .ok (.iload_n 1, 1) := by decide +kernel
theorem dX4_readFact_66 : decode cX4_readFact 66 = .ok (.iconst 1, 1) := by decide +kernel
theorem dX4_readFact_67 : decode cX4_readFact 67 = .ok (.iadd, 1) := by decide +kernel
theorem dX4_readFact_68 : decode cX4_readFact 68 = .ok (.invokevirtual 174, 3) := by decide +kernel
theorem dX4_readFact_71 : decode cX4_readFact 71 = .ok (.istore_n 3, 1) := by decide +kernel
theorem dX4_readFact_72 : decode cX4_readFact 72 = .ok (.aload_n 0, 1) := by decide +kernel
theorem dX4_readFact_73 : decode cX4_readFact 73 = .ok (.getfield 39, 3) := by decide +kernel
theorem dX4_readFact_76 : decode cX4_readFact 76 = .ok (.bipush 26, 2) := by decide +kernel
theorem dX4_readFact_78 : decode cX4_readFact 78 = .ok (.iconst 0, 1) := by decide +kernel
theorem dX4_readFact_79 : decode cX4_readFact 79 = .ok (.invokevirtual 171, 3) := by decide +kernel
theorem dX4_readFact_82 : decode cX4_readFact 82 = .ok (.iload_n 3, 1) := by decide +kernel
theorem dX4_readFact_83 : decode cX4_readFact 83 = .ok (.ireturn, 1) := by decide +kernel
theorem dX4_readFact_84 : decode cX4_readFact 84 = .ok (.iload_n 2, 1) := by decide +kernel
theorem dX4_readFact_85 : decode cX4_readFact 85 = .ok (.bipush 27, 2) := by decide +kernel
theorem dX4_readFact_87 : decode cX4_readFact 87 = .ok (.if_icmp .lt 9, 3) := by decide +kernel
theorem dX4_readFact_90 : decode cX4_readFact 90 = .ok (.iload_n 2, 1) := by decide +kernel
theorem dX4_readFact_91 : decode cX4_readFact 91 = .ok (.bipush 36, 2) := by decide +kernel
theorem dX4_readFact_93 : decode cX4_readFact 93 = .ok (.if_icmp .le 9, 3) := by decide +kernel
theorem dX4_readFact_96 : decode cX4_readFact 96 = .ok (.aload_n 0, 1) := by decide +kernel
theorem dX4_readFact_97 : decode cX4_readFact 97 = .ok (.iconst 2, 1) := by decide +kernel
theorem dX4_readFact_98 : decode cX4_readFact 98 = .ok (.invokevirtual 102, 3) := by decide +kernel
theorem dX4_readFact_101 : decode cX4_readFact 101 = .ok (.ireturn, 1) := by decide +kernel
theorem dX4_readFact_102 : decode cX4_readFact 102 = .ok (.aload_n 0, 1) := by decide +kernel
theorem dX4_readFact_103 : decode cX4_readFact 103 = .ok (.invokevirtual 77, 3) := by decide +kernel
theorem dX4_readFact_106 : decode cX4_readFact 106 = .ok (.iload_n 2, 1) := by decide +kernel
theorem dX4_readFact_107 : decode cX4_readFact 107 = .ok (.bipush 28, 2) := by decide +kernel
theorem dX4_readFact_109 : decode cX4_readFact 109 = .ok (.if_icmp .gt 7, 3) := by decide +kernel
theorem dX4_readFact_112 : decode cX4_readFact 112 = .ok (.iconst 0, 1) := by decide +kernel
theorem dX4_readFact_113 : decode cX4_readFact 113 = .ok (.goto 17, 3) := by decide +kernel
theorem dX4_readFact_116 : decode cX4_readFact 116 = .ok (.aload_n 0, 1) := by decide +kernel
theorem dX4_readFact_117 : decode cX4_readFact 117 = .ok (.getstatic 111, 3) := by decide +kernel
theorem dX4_readFact_120 : decode cX4_readFact 120 = .ok (.iload_n 2, 1) := by decide +kernel
theorem dX4_readFact_121 : decode cX4_readFact 121 = .ok (.iaload, 1) := by decide +kernel
theorem dX4_readFact_122 : decode cX4_readFact 122 = .ok (.getstatic 115, 3) := by decide +kernel
theorem dX4_readFact_125 : decode cX4_readFact 125 = .ok (.iload_n 2, 1) := by decide +kernel
theorem dX4_readFact_126 : decode cX4_readFact 126 = .ok (.iaload, 1) := by decide +kernel
theorem dX4_readFact_127 : decode cX4_readFact 127 = .ok (.invokevirtual 118, 3) := by decide +kernel
theorem dX4_readFact_130 : decode cX4_readFact 130 = .ok (.istore_n 3, 1) := by decide +kernel
theorem dX4_readFact_131 : decode cX4_readFact 131 = .ok (.iload_n 3, 1) := by decide +kernel
theorem dX4_readFact_132 : decode cX4_readFact 132 = .ok (.iconst (-1), 1) := by decide +kernel
theorem dX4_readFact_133 : decode cX4_readFact 133 = .ok (.if_icmp .ne 5, 3) := by decide +kernel
theorem dX4_readFact_136 : decode cX4_readFact 136 = .ok (.iconst 0, 1) := by decide +kernel
theorem dX4_readFact_137 : decode cX4_readFact 137 = .ok (.ireturn, 1) := by decide +kernel
theorem dX4_readFact_138 : decode cX4_readFact 138 = .ok (.aload_n 0, 1) := by decide +kernel
theorem dX4_readFact_139 : decode cX4_readFact 139 = .ok (.getfield 39, 3) := by decide +kernel
theorem dX4_readFact_142 : decode cX4_readFact 142 = .ok (.iload_n 2, 1) := by decide +kernel
theorem dX4_readFact_143 : decode cX4_readFact 143 = .ok (.iload_n 3, 1) := by decide +kernel
theorem dX4_readFact_144 : decode cX4_readFact 144 = .ok (.invokevirtual 171, 3) := by decide +kernel
theorem dX4_readFact_147 : decode cX4_readFact 147 = .ok (.iconst 1, 1) := by decide +kernel
theorem dX4_readFact_148 : decode cX4_readFact 148 = .ok (.ireturn, 1) := by decide +kernel
theorem dX5_init_0 : decode cX5_init 0 = .ok (.aload_n 0, 1) := by decide +kernel
theorem dX5_init_1 : decode cX5_init 1 = .ok (.invokespecial 3, 3) := by decide +kernel
theorem dX5_init_4 : decode cX5_init 4 = .ok (.aload_n 0, 1) := by decide +kernel
theorem dX5_init_5 : decode cX5_init 5 = .ok (.bipush 60, 2) := by decide +kernel
theorem dX5_init_7 : decode cX5_init 7 = .ok (.newarray .int, 2) := by decide +kernel
theorem dX5_init_9 : decode cX5_init 9 = .ok (.putfield 9, 3) := by decide +kernel
theorem dX5_init_12 : decode cX5_init 12 = .ok (.aload_n 0, 1) := by decide +kernel
theorem dX5_init_13 : decode cX5_init 13 = .ok (.bipush 60, 2) := by decide +kernel
theorem dX5_init_15 : decode cX5_init 15 = .ok (.newarray .int, 2) := by decide +kernel
theorem dX5_init_17 : decode cX5_init 17 = .ok (.putfield 15, 3) := by decide +kernel
theorem dX5_init_20 : decode cX5_init 20 = .ok (.aload_n 0, 1) := by decide +kernel
theorem dX5_init_21 : decode cX5_init 21 = .ok (.bipush 60, 2) := by decide +kernel
theorem dX5_init_23 : decode cX5_init 23 = .ok (.newarray .int, 2) := by decide +kernel
theorem dX5_init_25 : decode cX5_init 25 = .ok (.putfield 18, 3) := by decide +kernel
theorem dX5_init_28 : decode cX5_init 28 = .ok (.aload_n 0, 1) := by decide +kernel
theorem dX5_init_29 : decode cX5_init 29 = .ok (.bipush 60, 2) := by decide +kernel
theorem dX5_init_31 : decode cX5_init 31 = .ok (.newarray .int, 2) := by decide +kernel
theorem dX5_init_33 : decode cX5_init 33 = .ok (.putfield 21, 3) := by decide +kernel
theorem dX5_init_36 : decode cX5_init 36 = .ok (.aload_n 0, 1) := by decide +kernel
theorem dX5_init_37 : decode cX5_init 37 = .ok (.bipush 60, 2) := by decide +kernel
theorem dX5_init_39 : decode cX5_init 39 = .ok (.newarray .int, 2) := by decide +kernel
theorem dX5_init_41 : decode cX5_init 41 = .ok (.putfield 24, 3) := by decide +kernel
theorem dX5_init_44 : decode cX5_init 44 = .ok (.return_, 1) := by decide +kernel
theorem dX5_begin_0 : decode cX5_begin 0 = .ok (.aload_n 0, 1) := by decide +kernel
theorem dX5_begin_1 : decode cX5_begin 1 = .ok (.iload_n 1, 1) := by decide +kernel
theorem dX5_begin_2 : decode cX5_begin 2 = .ok (.iconst 0, 1) := by decide +kernel
theorem dX5_begin_3 : decode cX5_begin 3 = .ok (.invokestatic 27, 3) := by decide +kernel
theorem dX5_begin_6 : decode cX5_begin 6 = .ok (.bipush 60, 2) := by decide +kernel
theorem dX5_begin_8 : decode cX5_begin 8 = .ok (.invokestatic 33, 3) := by decide +kernel
theorem dX5_begin_11 : decode cX5_begin 11 = .ok (.putfield 36, 3) := by decide +kernel
theorem dX5_begin_14 : decode cX5_begin 14 = .ok (.aload_n 0, 1) := by decide +kernel
theorem dX5_begin_15 : decode cX5_begin 15 = .ok (.iconst 0, 1) := by decide +kernel
theorem dX5_begin_16 : decode cX5_begin 16 = .ok (.putfield 40, 3) := by decide +kernel
theorem dX5_begin_19 : decode cX5_begin 19 = .ok (.aload_n 0, 1) := by decide +kernel
theorem dX5_begin_20 : decode cX5_begin 20 = .ok (.getfield 36, 3) := by decide +kernel
theorem dX5_begin_23 : decode cX5_begin 23 = .ok (.iconst 1, 1) := by decide +kernel
theorem dX5_begin_24 : decode cX5_begin 24 = .ok (.iadd, 1) := by decide +kernel
theorem dX5_begin_25 : decode cX5_begin 25 = .ok (.aload_n 0, 1) := by decide +kernel
theorem dX5_begin_26 : decode cX5_begin 26 = .ok (.getfield 36, 3) := by decide +kernel
theorem dX5_begin_29 : decode cX5_begin 29 = .ok (.iconst 1, 1) := by decide +kernel
theorem dX5_begin_30 : decode cX5_begin 30 = .ok (.iadd, 1) := by decide +kernel
theorem dX5_begin_31 : decode cX5_begin 31 = .ok (.imul, 1) := by decide +kernel
theorem dX5_begin_32 : decode cX5_begin 32 = .ok (.istore_n 2, 1) := by decide +kernel
theorem dX5_begin_33 : decode cX5_begin 33 = .ok (.iconst 0, 1) := by decide +kernel
theorem dX5_begin_34 : decode cX5_begin 34 = .ok (.istore_n 3, 1) := by decide +kernel
theorem dX5_begin_35 : decode cX5_begin 35 = .ok (.iload_n 3, 1) := by decide +kernel
theorem dX5_begin_36 : decode cX5_begin 36 = .ok (.aload_n 0, 1) := by decide +kernel
theorem dX5_begin_37 : decode cX5_begin 37 = .ok (.getfield 36, 3) := by decide +kernel
theorem dX5_begin_40 : decode cX5_begin 40 = .ok (.if_icmp .ge 61, 3) := by decide +kernel
theorem dX5_begin_43 : decode cX5_begin 43 = .ok (.aload_n 0, 1) := by decide +kernel
theorem dX5_begin_44 : decode cX5_begin 44 = .ok (.getfield 9, 3) := by decide +kernel
theorem dX5_begin_47 : decode cX5_begin 47 = .ok (.iload_n 3, 1) := by decide +kernel
theorem dX5_begin_48 : decode cX5_begin 48 = .ok (.bipush 10, 2) := by decide +kernel
theorem dX5_begin_50 : decode cX5_begin 50 = .ok (.iastore, 1) := by decide +kernel
theorem dX5_begin_51 : decode cX5_begin 51 = .ok (.aload_n 0, 1) := by decide +kernel
theorem dX5_begin_52 : decode cX5_begin 52 = .ok (.getfield 15, 3) := by decide +kernel
theorem dX5_begin_55 : decode cX5_begin 55 = .ok (.iload_n 3, 1) := by decide +kernel
theorem dX5_begin_56 : decode cX5_begin 56 = .ok (.bipush 100, 2) := by decide +kernel
theorem dX5_begin_58 : decode cX5_begin 58 = .ok (.iastore, 1) := by decide +kernel
theorem dX5_begin_59 : decode cX5_begin 59 = .ok (.aload_n 0, 1) := by decide +kernel
theorem dX5_begin_60 : decode cX5_begin 60 = .ok (.getfield 18, 3) := by decide +kernel
theorem dX5_begin_63 : decode cX5_begin 63 = .ok (.iload_n 3, 1) := by decide +kernel
theorem dX5_begin_64 : decode cX5_begin 64 = .ok (.iconst 0, 1) := by decide +kernel
theorem dX5_begin_65 : decode cX5_begin 65 = .ok (.iastore, 1) := by decide +kernel
theorem dX5_begin_66 : decode cX5_begin 66 = .ok (.aload_n 0, 1) := by decide +kernel
theorem dX5_begin_67 : decode cX5_begin 67 = .ok (.getfield 21, 3) := by decide +kernel
theorem dX5_begin_70 : decode cX5_begin 70 = .ok (.iload_n 3, 1) := by decide +kernel
theorem dX5_begin_71 : decode cX5_begin 71 = .ok (.iconst 0, 1) := by decide +kernel
theorem dX5_begin_72 : decode cX5_begin 72 = .ok (.iastore, 1) := by decide +kernel
theorem dX5_begin_73 : decode cX5_begin 73 = .ok (.aload_n 0, 1) := by decide +kernel
theorem dX5_begin_74 : decode cX5_begin 74 = .ok (.getfield 24, 3) := by decide +kernel
theorem dX5_begin_77 : decode cX5_begin 77 = .ok (.iload_n 3, 1) := by decide +kernel
theorem dX5_begin_78 : decode cX5_begin 78 = .ok (.iload_n 3, 1) := by decide +kernel
theorem dX5_begin_79 : decode cX5_begin 79 = .ok (.iconst 1, 1) := by decide +kernel
theorem dX5_begin_80 : decode cX5_begin 80 = .ok (.iadd, 1) := by decide +kernel
theorem dX5_begin_81 : decode cX5_begin 81 = .ok (.aload_n 0, 1) := by decide +kernel
theorem dX5_begin_82 : decode cX5_begin 82 = .ok (.getfield 36, 3) := by decide +kernel
theorem dX5_begin_85 : decode cX5_begin 85 = .ok (.iload_n 3, 1) := by decide +kernel
theorem dX5_begin_86 : decode cX5_begin 86 = .ok (.isub, 1) := by decide +kernel
theorem dX5_begin_87 : decode cX5_begin 87 = .ok (.imul, 1) := by decide +kernel
theorem dX5_begin_88 : decode cX5_begin 88 = .ok (.sipush 400, 3) := by decide +kernel
theorem dX5_begin_91 : decode cX5_begin 91 = .ok (.imul, 1) := by decide +kernel
theorem dX5_begin_92 : decode cX5_begin 92 = .ok (.iload_n 2, 1) := by decide +kernel
theorem dX5_begin_93 : decode cX5_begin 93 = .ok (.idiv, 1) := by decide +kernel
theorem dX5_begin_94 : decode cX5_begin 94 = .ok (.iastore, 1) := by decide +kernel
theorem dX5_begin_95 : decode cX5_begin 95 = .ok (.iinc 3 1, 3) := by decide +kernel
theorem dX5_begin_98 : decode cX5_begin 98 = .ok (.goto (-63), 3) := by decide +kernel
theorem dX5_begin_101 : decode cX5_begin 101 = .ok (.return_, 1) := by decide +kernel
theorem dX5_copyFrom_0 : decode cX5_copyFrom 0 = .ok (.aload_n 0, 1) := by decide +kernel
theorem dX5_copyFrom_1 : decode cX5_copyFrom 1 = .ok (.aload_n 1, 1) := by decide +kernel
theorem dX5_copyFrom_2 : decode cX5_copyFrom 2 = .ok (.getfield 36, 3) := by decide +kernel
theorem dX5_copyFrom_5 : decode cX5_copyFrom 5 = .ok (.putfield 36, 3) := by decide +kernel
theorem dX5_copyFrom_8 : decode cX5_copyFrom 8 = .ok (.aload_n 0, 1) := by decide +kernel
theorem dX5_copyFrom_9 : decode cX5_copyFrom 9 = .ok (.aload_n 1, 1) := by decide +kernel
theorem dX5_copyFrom_10 : decode cX5_copyFrom 10 = .ok (.getfield 40, 3) := by decide +kernel
theorem dX5_copyFrom_13 : decode cX5_copyFrom 13 = .ok (.putfield 40, 3) := by decide +kernel
theorem dX5_copyFrom_16 : decode cX5_copyFrom 16 = .ok (.aload_n 1, 1) := by decide +kernel
theorem dX5_copyFrom_17 : decode cX5_copyFrom 17 = .ok (.getfield 9, 3) := by decide +kernel
theorem dX5_copyFrom_20 : decode cX5_copyFrom 20 = .ok (.iconst 0, 1) := by decide +kernel
theorem dX5_copyFrom_21 : decode cX5_copyFrom 21 = .ok (.aload_n 0, 1) := by decide +kernel
theorem dX5_copyFrom_22 : decode cX5_copyFrom 22 = .ok (.getfield 9, 3) := by decide +kernel
theorem dX5_copyFrom_25 : decode cX5_copyFrom 25 = .ok (.iconst 0, 1) := by decide +kernel
theorem dX5_copyFrom_26 : decode cX5_copyFrom 26 = .ok (.bipush 60, 2) := by decide +kernel
theorem dX5_copyFrom_28 : decode cX5_copyFrom 28 = .ok (.invokestatic 43, 3) := by decide +kernel
theorem dX5_copyFrom_31 : decode cX5_copyFrom 31 = .ok (.aload_n 1, 1) := by decide +kernel
theorem dX5_copyFrom_32 : decode cX5_copyFrom 32 = .ok (.getfield 15, 3) := by decide +kernel
theorem dX5_copyFrom_35 : decode cX5_copyFrom 35 = .ok (.iconst 0, 1) := by decide +kernel
theorem dX5_copyFrom_36 : decode cX5_copyFrom 36 = .ok (.aload_n 0, 1) := by decide +kernel
theorem dX5_copyFrom_37 : decode cX5_copyFrom 37 = .ok (.getfield 15, 3) := by decide +kernel
theorem dX5_copyFrom_40 : decode cX5_copyFrom 40 = .ok (.iconst 0, 1) := by decide +kernel
theorem dX5_copyFrom_41 : decode cX5_copyFrom 41 = .ok (.bipush 60, 2) := by decide +kernel
theorem dX5_copyFrom_43 : decode cX5_copyFrom 43 = .ok (.invokestatic 43, 3) := by decide +kernel
theorem dX5_copyFrom_46 : decode cX5_copyFrom 46 = .ok (.aload_n 1, 1) := by decide +kernel
theorem dX5_copyFrom_47 : decode cX5_copyFrom 47 = .ok (.getfield 18, 3) := by decide +kernel
theorem dX5_copyFrom_50 : decode cX5_copyFrom 50 = .ok (.iconst 0, 1) := by decide +kernel
theorem dX5_copyFrom_51 : decode cX5_copyFrom 51 = .ok (.aload_n 0, 1) := by decide +kernel
theorem dX5_copyFrom_52 : decode cX5_copyFrom 52 = .ok (.getfield 18, 3) := by decide +kernel
theorem dX5_copyFrom_55 : decode cX5_copyFrom 55 = .ok (.iconst 0, 1) := by decide +kernel
theorem dX5_copyFrom_56 : decode cX5_copyFrom 56 = .ok (.bipush 60, 2) := by decide +kernel
theorem dX5_copyFrom_58 : decode cX5_copyFrom 58 = .ok (.invokestatic 43, 3) := by decide +kernel
theorem dX5_copyFrom_61 : decode cX5_copyFrom 61 = .ok (.aload_n 1, 1) := by decide +kernel
theorem dX5_copyFrom_62 : decode cX5_copyFrom 62 = .ok (.getfield 21, 3) := by decide +kernel
theorem dX5_copyFrom_65 : decode cX5_copyFrom 65 = .ok (.iconst 0, 1) := by decide +kernel
theorem dX5_copyFrom_66 : decode cX5_copyFrom 66 = .ok (.aload_n 0, 1) := by decide +kernel
theorem dX5_copyFrom_67 : decode cX5_copyFrom 67 = .ok (.getfield 21, 3) := by decide +kernel
theorem dX5_copyFrom_70 : decode cX5_copyFrom 70 = .ok (.iconst 0, 1) := by decide +kernel
theorem dX5_copyFrom_71 : decode cX5_copyFrom 71 = .ok (.bipush 60, 2) := by decide +kernel
theorem dX5_copyFrom_73 : decode cX5_copyFrom 73 = .ok (.invokestatic 43, 3) := by decide +kernel
theorem dX5_copyFrom_76 : decode cX5_copyFrom 76 = .ok (.aload_n 1, 1) := by decide +kernel
theorem dX5_copyFrom_77 : decode cX5_copyFrom 77 = .ok (.getfield 24, 3) := by decide +kernel
theorem dX5_copyFrom_80 : decode cX5_copyFrom 80 = .ok (.iconst 0, 1) := by decide +kernel
theorem dX5_copyFrom_81 : decode cX5_copyFrom 81 = .ok (.aload_n 0, 1) := by decide +kernel
