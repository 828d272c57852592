theorem dX5_copyFrom_82 : decode cX5_copyFrom 82 = .ok (.getfield 24, 3) := by decide +kernel
theorem dX5_copyFrom_85 : decode cX5_copyFrom 85 = .ok (.iconst 0, 1) := by decide +kernel
theorem dX5_copyFrom_86 : decode cX5_copyFrom 86 = .ok (.bipush 60, 2) := by decide +kernel
theorem dX5_copyFrom_88 : decode cX5_copyFrom 88 = .ok (.invokestatic 43, 3) := by decide +kernel
theorem dX5_copyFrom_91 : decode cX5_copyFrom 91 = .ok (.return_, 1) := by decide +kernel
theorem dX5_takeCell_0 : decode cX5_takeCell 0 = .ok (.aload_n 0, 1) := by decide +kernel
theorem dX5_takeCell_1 : decode cX5_takeCell 1 = .ok (.getfield 9, 3) := by decide +kernel
theorem dX5_takeCell_4 : decode cX5_takeCell 4 = .ok (.iload_n 1, 1) := by decide +kernel
theorem dX5_takeCell_5 : decode cX5_takeCell 5 = .ok (.aload_n 2, 1) := by decide +kernel
theorem dX5_takeCell_6 : decode cX5_takeCell 6 = .ok (.getfield 9, 3) := by decide +kernel
theorem dX5_takeCell_9 : decode cX5_takeCell 9 = .ok (.iload_n 3, 1) := by decide +kernel
theorem dX5_takeCell_10 : decode cX5_takeCell 10 = .ok (.iaload, 1) := by decide +kernel
theorem dX5_takeCell_11 : decode cX5_takeCell 11 = .ok (.iastore, 1) := by decide +kernel
theorem dX5_takeCell_12 : decode cX5_takeCell 12 = .ok (.aload_n 0, 1) := by decide +kernel
theorem dX5_takeCell_13 : decode cX5_takeCell 13 = .ok (.getfield 15, 3) := by decide +kernel
theorem dX5_takeCell_16 : decode cX5_takeCell 16 = .ok (.iload_n 1, 1) := by decide +kernel
theorem dX5_takeCell_17 : decode cX5_takeCell 17 = .ok (.aload_n 2, 1) := by decide +kernel
theorem dX5_takeCell_18 : decode cX5_takeCell 18 = .ok (.getfield 15, 3) := by decide +kernel
theorem dX5_takeCell_21 : decode cX5_takeCell 21 = .ok (.iload_n 3, 1) := by decide +kernel
theorem dX5_takeCell_22 : decode cX5_takeCell 22 = .ok (.iaload, 1) := by decide +kernel
theorem dX5_takeCell_23 : decode cX5_takeCell 23 = .ok (.iastore, 1) := by decide +kernel
theorem dX5_takeCell_24 : decode cX5_takeCell 24 = .ok (.aload_n 0, 1) := by decide +kernel
theorem dX5_takeCell_25 : decode cX5_takeCell 25 = .ok (.getfield 18, 3) := by decide +kernel
theorem dX5_takeCell_28 : decode cX5_takeCell 28 = .ok (.iload_n 1, 1) := by decide +kernel
theorem dX5_takeCell_29 : decode cX5_takeCell 29 = .ok (.aload_n 2, 1) := by decide +kernel
theorem dX5_takeCell_30 : decode cX5_takeCell 30 = .ok (.getfield 18, 3) := by decide +kernel
theorem dX5_takeCell_33 : decode cX5_takeCell 33 = .ok (.iload_n 3, 1) := by decide +kernel
theorem dX5_takeCell_34 : decode cX5_takeCell 34 = .ok (.iaload, 1) := by decide +kernel
theorem dX5_takeCell_35 : decode cX5_takeCell 35 = .ok (.iastore, 1) := by decide +kernel
theorem dX5_takeCell_36 : decode cX5_takeCell 36 = .ok (.aload_n 0, 1) := by decide +kernel
theorem dX5_takeCell_37 : decode cX5_takeCell 37 = .ok (.getfield 21, 3) := by decide +kernel
theorem dX5_takeCell_40 : decode cX5_takeCell 40 = .ok (.iload_n 1, 1) := by decide +kernel
theorem dX5_takeCell_41 : decode cX5_takeCell 41 = .ok (.aload_n 2, 1) := by decide +kernel
theorem dX5_takeCell_42 : decode cX5_takeCell 42 = .ok (.getfield 21, 3) := by decide +kernel
theorem dX5_takeCell_45 : decode cX5_takeCell 45 = .ok (.iload_n 3, 1) := by decide +kernel
theorem dX5_takeCell_46 : decode cX5_takeCell 46 = .ok (.iaload, 1) := by decide +kernel
theorem dX5_takeCell_47 : decode cX5_takeCell 47 = .ok (.iastore, 1) := by decide +kernel
theorem dX5_takeCell_48 : decode cX5_takeCell 48 = .ok (.return_, 1) := by decide +kernel
theorem dX5_tell_0 : decode cX5_tell 0 = .ok (.aload_n 0, 1) := by decide +kernel
theorem dX5_tell_1 : decode cX5_tell 1 = .ok (.getfield 21, 3) := by decide +kernel
theorem dX5_tell_4 : decode cX5_tell 4 = .ok (.astore 5, 2) := by decide +kernel
theorem dX5_tell_6 : decode cX5_tell 6 = .ok (.iload_n 1, 1) := by decide +kernel
theorem dX5_tell_7 : decode cX5_tell 7 = .ok (.iconst 1, 1) := by decide +kernel
theorem dX5_tell_8 : decode cX5_tell 8 = .ok (.if_icmp .ne 12, 3) := by decide +kernel
theorem dX5_tell_11 : decode cX5_tell 11 = .ok (.aload_n 0, 1) := by decide +kernel
theorem dX5_tell_12 : decode cX5_tell 12 = .ok (.getfield 9, 3) := by decide +kernel
theorem dX5_tell_15 : decode cX5_tell 15 = .ok (.astore 5, 2) := by decide +kernel
theorem dX5_tell_17 : decode cX5_tell 17 = .ok (.goto 28, 3) := by decide +kernel
theorem dX5_tell_20 : decode cX5_tell 20 = .ok (.iload_n 1, 1) := by decide +kernel
theorem dX5_tell_21 : decode cX5_tell 21 = .ok (.iconst 2, 1) := by decide +kernel
theorem dX5_tell_22 : decode cX5_tell 22 = .ok (.if_icmp .ne 12, 3) := by decide +kernel
theorem dX5_tell_25 : decode cX5_tell 25 = .ok (.aload_n 0, 1) := by decide +kernel
theorem dX5_tell_26 : decode cX5_tell 26 = .ok (.getfield 15, 3) := by decide +kernel
theorem dX5_tell_29 : decode cX5_tell 29 = .ok (.astore 5, 2) := by decide +kernel
theorem dX5_tell_31 : decode cX5_tell 31 = .ok (.goto 14, 3) := by decide +kernel
theorem dX5_tell_34 : decode cX5_tell 34 = .ok (.iload_n 1, 1) := by decide +kernel
theorem dX5_tell_35 : decode cX5_tell 35 = .ok (.iconst 5, 1) := by decide +kernel
theorem dX5_tell_36 : decode cX5_tell 36 = .ok (.if_icmp .ne 9, 3) := by decide +kernel
theorem dX5_tell_39 : decode cX5_tell 39 = .ok (.aload_n 0, 1) := by decide +kernel
theorem dX5_tell_40 : decode cX5_tell 40 = .ok (.getfield 18, 3) := by decide +kernel
theorem dX5_tell_43 : decode cX5_tell 43 = .ok (.astore 5, 2) := by decide +kernel
theorem dX5_tell_45 : decode cX5_tell 45 = .ok (.iload_n 2, 1) := by decide +kernel
theorem dX5_tell_46 : decode cX5_tell 46 = .ok (.iconst 0, 1) := by decide +kernel
theorem dX5_tell_47 : decode cX5_tell 47 = .ok (.invokestatic 27, 3) := by decide +kernel
theorem dX5_tell_50 : decode cX5_tell 50 = .ok (.istore 6, 2) := by decide +kernel
theorem dX5_tell_52 : decode cX5_tell 52 = .ok (.iload 6, 2) := by decide +kernel
theorem dX5_tell_54 : decode cX5_tell 54 = .ok (.iload_n 3, 1) := by decide +kernel
theorem dX5_tell_55 : decode cX5_tell 55 = .ok (.if_icmp .gt 25, 3) := by decide +kernel
theorem dX5_tell_58 : decode cX5_tell 58 = .ok (.iload 6, 2) := by decide +kernel
theorem dX5_tell_60 : decode cX5_tell 60 = .ok (.aload_n 0, 1) := by decide +kernel
theorem dX5_tell_61 : decode cX5_tell 61 = .ok (.getfield 36, 3) := by decide +kernel
theorem dX5_tell_64 : decode cX5_tell 64 = .ok (.if_icmp .ge 16, 3) := by decide +kernel
theorem dX5_tell_67 : decode cX5_tell 67 = .ok (.aload 5, 2) := by decide +kernel
theorem dX5_tell_69 : decode cX5_tell 69 = .ok (.iload 6, 2) := by decide +kernel
theorem dX5_tell_71 : decode cX5_tell 71 = .ok (.iload 4, 2) := by decide +kernel
theorem dX5_tell_73 : decode cX5_tell 73 = .ok (.iastore, 1) := by decide +kernel
theorem dX5_tell_74 : decode cX5_tell 74 = .ok (.iinc 6 1, 3) := by decide +kernel
theorem dX5_tell_77 : decode cX5_tell 77 = .ok (.goto (-25), 3) := by decide +kernel
theorem dX5_tell_80 : decode cX5_tell 80 = .ok (.return_, 1) := by decide +kernel
theorem dX5_drawStrengths_0 : decode cX5_drawStrengths 0 = .ok (.iload_n 1, 1) := by decide +kernel
theorem dX5_drawStrengths_1 : decode cX5_drawStrengths 1 = .ok (.istore_n 3, 1) := by decide +kernel
theorem dX5_drawStrengths_2 : decode cX5_drawStrengths 2 = .ok (.aload_n 0, 1) := by decide +kernel
theorem dX5_drawStrengths_3 : decode cX5_drawStrengths 3 = .ok (.getfield 40, 3) := by decide +kernel
theorem dX5_drawStrengths_6 : decode cX5_drawStrengths 6 = .ok (.iconst 0, 1) := by decide +kernel
theorem dX5_drawStrengths_7 : decode cX5_drawStrengths 7 = .ok (.invokestatic 27, 3) := by decide +kernel
theorem dX5_drawStrengths_10 : decode cX5_drawStrengths 10 = .ok (.iconst 1, 1) := by decide +kernel
theorem dX5_drawStrengths_11 : decode cX5_drawStrengths 11 = .ok (.iadd, 1) := by decide +kernel
theorem dX5_drawStrengths_12 : decode cX5_drawStrengths 12 = .ok (.istore 4, 2) := by decide +kernel
theorem dX5_drawStrengths_14 : decode cX5_drawStrengths 14 = .ok (.iconst 0, 1) := by decide +kernel
theorem dX5_drawStrengths_15 : decode cX5_drawStrengths 15 = .ok (.istore 5, 2) := by decide +kernel
theorem dX5_drawStrengths_17 : decode cX5_drawStrengths 17 = .ok (.iload 5, 2) := by decide +kernel
theorem dX5_drawStrengths_19 : decode cX5_drawStrengths 19 = .ok (.aload_n 0, 1) := by decide +kernel
theorem dX5_drawStrengths_20 : decode cX5_drawStrengths 20 = .ok (.getfield 36, 3) := by decide +kernel
theorem dX5_drawStrengths_23 : decode cX5_drawStrengths 23 = .ok (.if_icmp .ge 76, 3) := by decide +kernel
theorem dX5_drawStrengths_26 : decode cX5_drawStrengths 26 = .ok (.iload 5, 2) := by decide +kernel
theorem dX5_drawStrengths_28 : decode cX5_drawStrengths 28 = .ok (.aload_n 2, 1) := by decide +kernel
theorem dX5_drawStrengths_29 : decode cX5_drawStrengths 29 = .ok (.arraylength, 1) := by decide +kernel
theorem dX5_drawStrengths_30 : decode cX5_drawStrengths 30 = .ok (.if_icmp .ge 69, 3) := by decide +kernel
theorem dX5_drawStrengths_33 : decode cX5_drawStrengths 33 = .ok (.iconst 0, 1) := by decide +kernel
theorem dX5_drawStrengths_34 : decode cX5_drawStrengths 34 = .ok (.istore 6, 2) := by decide +kernel
theorem dX5_drawStrengths_36 : decode cX5_drawStrengths 36 = .ok (.aload_n 0, 1) := by decide +kernel
theorem dX5_drawStrengths_37 : decode cX5_drawStrengths 37 = .ok (.getfield 40, 3) := by decide +kernel
theorem dX5_drawStrengths_40 : decode cX5_drawStrengths 40 = .ok (.ifCond .le 21, 3) := by decide +kernel
theorem dX5_drawStrengths_43 : decode cX5_drawStrengths 43 = .ok (.ldc 49, 2) := by decide +kernel
theorem dX5_drawStrengths_45 : decode cX5_drawStrengths 45 = .ok (.iload_n 3, 1) := by decide +kernel
theorem dX5_drawStrengths_46 : decode cX5_drawStrengths 46 = .ok (.imul, 1) := by decide +kernel
theorem dX5_drawStrengths_47 : decode cX5_drawStrengths 47 = .ok (.sipush 12345, 3) := by decide +kernel
theorem dX5_drawStrengths_50 : decode cX5_drawStrengths 50 = .ok (.iadd, 1) := by decide +kernel
theorem dX5_drawStrengths_51 : decode cX5_drawStrengths 51 = .ok (.istore_n 3, 1) := by decide +kernel
theorem dX5_drawStrengths_52 : decode cX5_drawStrengths 52 = .ok (.iload_n 3, 1) := by decide +kernel
theorem dX5_drawStrengths_53 : decode cX5_drawStrengths 53 = .ok (.bipush 16, 2) := by decide +kernel
theorem dX5_drawStrengths_55 : decode cX5_drawStrengths 55 = .ok (.iushr, 1) := by decide +kernel
theorem dX5_drawStrengths_56 : decode cX5_drawStrengths 56 = .ok (.iload 4, 2) := by decide +kernel
theorem dX5_drawStrengths_58 : decode cX5_drawStrengths 58 = .ok (.irem, 1) := by decide +kernel
theorem dX5_drawStrengths_59 : decode cX5_drawStrengths 59 = .ok (.istore 6, 2) := by decide +kernel
theorem dX5_drawStrengths_61 : decode cX5_drawStrengths 61 = .ok (.aload_n 2, 1) := by decide +kernel
theorem dX5_drawStrengths_62 : decode cX5_drawStrengths 62 = .ok (.iload 5, 2) := by decide +kernel
theorem dX5_drawStrengths_64 : decode cX5_drawStrengths 64 = .ok (.iconst 1, 1) := by decide +kernel
theorem dX5_drawStrengths_65 : decode cX5_drawStrengths 65 = .ok (.aload_n 0, 1) := by decide +kernel
theorem dX5_drawStrengths_66 : decode cX5_drawStrengths 66 = .ok (.getfield 15, 3) := by decide +kernel
theorem dX5_drawStrengths_69 : decode cX5_drawStrengths 69 = .ok (.iload 5, 2) := by decide +kernel
theorem dX5_drawStrengths_71 : decode cX5_drawStrengths 71 = .ok (.iaload, 1) := by decide +kernel
theorem dX5_drawStrengths_72 : decode cX5_drawStrengths 72 = .ok (.bipush 100, 2) := by decide +kernel
theorem dX5_drawStrengths_74 : decode cX5_drawStrengths 74 = .ok (.aload_n 0, 1) := by decide +kernel
theorem dX5_drawStrengths_75 : decode cX5_drawStrengths 75 = .ok (.getfield 18, 3) := by decide +kernel
theorem dX5_drawStrengths_78 : decode cX5_drawStrengths 78 = .ok (.iload 5, 2) := by decide +kernel
theorem dX5_drawStrengths_80 : decode cX5_drawStrengths 80 = .ok (.iaload, 1) := by decide +kernel
theorem dX5_drawStrengths_81 : decode cX5_drawStrengths 81 = .ok (.isub, 1) := by decide +kernel
theorem dX5_drawStrengths_82 : decode cX5_drawStrengths 82 = .ok (.imul, 1) := by decide +kernel
theorem dX5_drawStrengths_83 : decode cX5_drawStrengths 83 = .ok (.bipush 100, 2) := by decide +kernel
theorem dX5_drawStrengths_85 : decode cX5_drawStrengths 85 = .ok (.idiv, 1) := by decide +kernel
theorem dX5_drawStrengths_86 : decode cX5_drawStrengths 86 = .ok (.iload 6, 2) := by decide +kernel
theorem dX5_drawStrengths_88 : decode cX5_drawStrengths 88 = .ok (.isub, 1) := by decide +kernel
theorem dX5_drawStrengths_89 : decode cX5_drawStrengths 89 = .ok (.invokestatic 27, 3) := by decide +kernel
theorem dX5_drawStrengths_92 : decode cX5_drawStrengths 92 = .ok (.iastore, 1) := by decide +kernel
theorem dX5_drawStrengths_93 : decode cX5_drawStrengths 93 = .ok (.iinc 5 1, 3) := by decide +kernel
theorem dX5_drawStrengths_96 : decode cX5_drawStrengths 96 = .ok (.goto (-79), 3) := by decide +kernel
theorem dX5_drawStrengths_99 : decode cX5_drawStrengths 99 = .ok (.return_, 1) := by decide +kernel
theorem dX6_init_0 : decode cX6_init 0 = .ok (.aload_n 0, 1) := by decide +kernel
theorem dX6_init_1 : decode cX6_init 1 = .ok (.invokespecial 3, 3) := by decide +kernel
theorem dX6_init_4 : decode cX6_init 4 = .ok (.aload_n 0, 1) := by decide +kernel
theorem dX6_init_5 : decode cX6_init 5 = .ok (.bipush 60, 2) := by decide +kernel
theorem dX6_init_7 : decode cX6_init 7 = .ok (.newarray .long, 2) := by decide +kernel
theorem dX6_init_9 : decode cX6_init 9 = .ok (.putfield 9, 3) := by decide +kernel
theorem dX6_init_12 : decode cX6_init 12 = .ok (.return_, 1) := by decide +kernel
theorem dX6_begin_0 : decode cX6_begin 0 = .ok (.aload_n 0, 1) := by decide +kernel
theorem dX6_begin_1 : decode cX6_begin 1 = .ok (.iconst 1, 1) := by decide +kernel
theorem dX6_begin_2 : decode cX6_begin 2 = .ok (.putfield 15, 3) := by decide +kernel
theorem dX6_begin_5 : decode cX6_begin 5 = .ok (.aload_n 0, 1) := by decide +kernel
theorem dX6_begin_6 : decode cX6_begin 6 = .ok (.iload_n 1, 1) := by decide +kernel
theorem dX6_begin_7 : decode cX6_begin 7 = .ok (.putfield 19, 3) := by decide +kernel
theorem dX6_begin_10 : decode cX6_begin 10 = .ok (.aload_n 0, 1) := by decide +kernel
theorem dX6_begin_11 : decode cX6_begin 11 = .ok (.iload_n 2, 1) := by decide +kernel
theorem dX6_begin_12 : decode cX6_begin 12 = .ok (.putfield 23, 3) := by decide +kernel
theorem dX6_begin_15 : decode cX6_begin 15 = .ok (.aload_n 0, 1) := by decide +kernel
theorem dX6_begin_16 : decode cX6_begin 16 = .ok (.getfield 9, 3) := by decide +kernel
theorem dX6_begin_19 : decode cX6_begin 19 = .ok (.lconst 0, 1) := by decide +kernel
theorem dX6_begin_20 : decode cX6_begin 20 = .ok (.invokestatic 26, 3) := by decide +kernel
theorem dX6_begin_23 : decode cX6_begin 23 = .ok (.return_, 1) := by decide +kernel
theorem dX6_put_0 : decode cX6_put 0 = .ok (.lload_n 2, 1) := by decide +kernel
theorem dX6_put_1 : decode cX6_put 1 = .ok (.lstore 4, 2) := by decide +kernel
theorem dX6_put_3 : decode cX6_put 3 = .ok (.aload_n 0, 1) := by decide +kernel
theorem dX6_put_4 : decode cX6_put 4 = .ok (.getfield 19, 3) := by decide +kernel
theorem dX6_put_7 : decode cX6_put 7 = .ok (.ifCond .ne 12, 3) := by decide +kernel
theorem dX6_put_10 : decode cX6_put 10 = .ok (.lload_n 2, 1) := by decide +kernel
theorem dX6_put_11 : decode cX6_put 11 = .ok (.l2i, 1) := by decide +kernel
theorem dX6_put_12 : decode cX6_put 12 = .ok (.i2b, 1) := by decide +kernel
theorem dX6_put_13 : decode cX6_put 13 = .ok (.i2l, 1) := by decide +kernel
theorem dX6_put_14 : decode cX6_put 14 = .ok (.lstore 4, 2) := by decide +kernel
theorem dX6_put_16 : decode cX6_put 16 = .ok (.goto 33, 3) := by decide +kernel
theorem dX6_put_19 : decode cX6_put 19 = .ok (.aload_n 0, 1) := by decide +kernel
theorem dX6_put_20 : decode cX6_put 20 = .ok (.getfield 19, 3) := by decide +kernel
theorem dX6_put_23 : decode cX6_put 23 = .ok (.iconst 1, 1) := by decide +kernel
theorem dX6_put_24 : decode cX6_put 24 = .ok (.if_icmp .ne 12, 3) := by decide +kernel
theorem dX6_put_27 : decode cX6_put 27 = .ok (.lload_n 2, 1) := by decide +kernel
theorem dX6_put_28 : decode cX6_put 28 = .ok (.l2i, 1) := by decide +kernel
theorem dX6_put_29 : decode cX6_put 29 = .ok (.i2s, 1) := by decide +kernel
theorem dX6_put_30 : decode cX6_put 30 = .ok (.i2l, 1) := by decide +kernel
theorem dX6_put_31 : decode cX6_put 31 = .ok (.lstore 4, 2) := by decide +kernel
theorem dX6_put_33 : decode cX6_put 33 = .ok (.goto 16, 3) := by decide +kernel
theorem dX6_put_36 : decode cX6_put 36 = .ok (.aload_n 0, 1) := by decide +kernel
theorem dX6_put_37 : decode cX6_put 37 = .ok (.getfield 19, 3) := by decide +kernel
theorem dX6_put_40 : decode cX6_put 40 = .ok (.iconst 2, 1) := by decide +kernel
theorem dX6_put_41 : decode cX6_put 41 = .ok (.if_icmp .ne 8, 3) := by decide +kernel
theorem dX6_put_44 : decode cX6_put 44 = .ok (.lload_n 2, 1) := by decide +kernel
theorem dX6_put_45 : decode cX6_put 45 = .ok (.l2i, 1) := by decide +kernel
theorem dX6_put_46 : decode cX6_put 46 = .ok (.i2l, 1) := by decide +kernel
theorem dX6_put_47 : decode cX6_put 47 = .ok (.lstore 4, 2) := by decide +kernel
theorem dX6_put_49 : decode cX6_put 49 = .ok (.aload_n 0, 1) := by decide +kernel
theorem dX6_put_50 : decode cX6_put 50 = .ok (.getfield 9, 3) := by decide +kernel
theorem dX6_put_53 : decode cX6_put 53 = .ok (.iload_n 1, 1) := by decide +kernel
theorem dX6_put_54 : decode cX6_put 54 = .ok (.lload 4, 2) := by decide +kernel
theorem dX6_put_56 : decode cX6_put 56 = .ok (.lastore, 1) := by decide +kernel
theorem dX6_put_57 : decode cX6_put 57 = .ok (.lload 4, 2) := by decide +kernel
theorem dX6_put_59 : decode cX6_put 59 = .ok (.lreturn, 1) := by decide +kernel
theorem dX7_init_0 : decode cX7_init 0 = .ok (.aload_n 0, 1) := by decide +kernel
theorem dX7_init_1 : decode cX7_init 1 = .ok (.invokespecial 3, 3) := by decide +kernel
theorem dX7_init_4 : decode cX7_init 4 = .ok (.aload_n 0, 1) := by decide +kernel
theorem dX7_init_5 : decode cX7_init 5 = .ok (.bipush 8, 2) := by decide +kernel
theorem dX7_init_7 : decode cX7_init 7 = .ok (.newarray .int, 2) := by decide +kernel
theorem dX7_init_9 : decode cX7_init 9 = .ok (.putfield 9, 3) := by decide +kernel
theorem dX7_init_12 : decode cX7_init 12 = .ok (.aload_n 0, 1) := by decide +kernel
theorem dX7_init_13 : decode cX7_init 13 = .ok (.sipush 240, 3) := by decide +kernel
theorem dX7_init_16 : decode cX7_init 16 = .ok (.newarray .int, 2) := by decide +kernel
theorem dX7_init_18 : decode cX7_init 18 = .ok (.putfield 15, 3) := by decide +kernel
theorem dX7_init_21 : decode cX7_init 21 = .ok (.aload_n 0, 1) := by decide +kernel
theorem dX7_init_22 : decode cX7_init 22 = .ok (.sipush 1200, 3) := by decide +kernel
theorem dX7_init_25 : decode cX7_init 25 = .ok (.newarray .int, 2) := by decide +kernel
theorem dX7_init_27 : decode cX7_init 27 = .ok (.putfield 18, 3) := by decide +kernel
theorem dX7_init_30 : decode cX7_init 30 = .ok (.aload_n 0, 1) := by decide +kernel
theorem dX7_init_31 : decode cX7_init 31 = .ok (.bipush 60, 2) := by decide +kernel
theorem dX7_init_33 : decode cX7_init 33 = .ok (.newarray .int, 2) := by decide +kernel
theorem dX7_init_35 : decode cX7_init 35 = .ok (.putfield 21, 3) := by decide +kernel
theorem dX7_init_38 : decode cX7_init 38 = .ok (.return_, 1) := by decide +kernel
theorem dX7_copyFrom_0 : decode cX7_copyFrom 0 = .ok (.aload_n 0, 1) := by decide +kernel
theorem dX7_copyFrom_1 : decode cX7_copyFrom 1 = .ok (.aload_n 1, 1) := by decide +kernel
theorem dX7_copyFrom_2 : decode cX7_copyFrom 2 = .ok (.getfield 24, 3) := by decide +kernel
theorem dX7_copyFrom_5 : decode cX7_copyFrom 5 = .ok (.putfield 24, 3) := by decide +kernel
theorem dX7_copyFrom_8 : decode cX7_copyFrom 8 = .ok (.aload_n 1, 1) := by decide +kernel
theorem dX7_copyFrom_9 : decode cX7_copyFrom 9 = .ok (.getfield 9, 3) := by decide +kernel
theorem dX7_copyFrom_12 : decode cX7_copyFrom 12 = .ok (.iconst 0, 1) := by decide +kernel
theorem dX7_copyFrom_13 : decode cX7_copyFrom 13 = .ok (.aload_n 0, 1) := by decide +kernel
theorem dX7_copyFrom_14 : decode cX7_copyFrom 14 = .ok (.getfield 9, 3) := by decide +kernel
theorem dX7_copyFrom_17 : decode cX7_copyFrom 17 = .ok (.iconst 0, 1) := by decide +kernel
theorem dX7_copyFrom_18 : decode cX7_copyFrom 18 = .ok (.bipush 8, 2) := by decide +kernel
theorem dX7_copyFrom_20 : decode cX7_copyFrom 20 = .ok (.invokestatic 28, 3) := by decide +kernel
theorem dX7_copyFrom_23 : decode cX7_copyFrom 23 = .ok (.aload_n 1, 1) := by decide +kernel
theorem dX7_copyFrom_24 : decode cX7_copyFrom 24 = .ok (.getfield 15, 3) := by decide +kernel
theorem dX7_copyFrom_27 : decode cX7_copyFrom 27 = .ok (.iconst 0, 1) := by decide +kernel
theorem dX7_copyFrom_28 : decode cX7_copyFrom 28 = .ok (.aload_n 0, 1) := by decide +kernel
theorem dX7_copyFrom_29 : decode cX7_copyFrom 29 = .ok (.getfield 15, 3) := by decide +kernel
theorem dX7_copyFrom_32 : decode cX7_copyFrom 32 = .ok (.iconst 0, 1) := by decide +kernel
theorem dX7_copyFrom_33 : decode cX7_copyFrom 33 = .ok (.sipush 240, 3) := by decide +kernel
theorem dX7_copyFrom_36 : decode cX7_copyFrom 36 = .ok (.invokestatic 28, 3) := by decide +kernel
theorem dX7_copyFrom_39 : decode cX7_copyFrom 39 = .ok (.aload_n 1, 1) := by decide +kernel
theorem dX7_copyFrom_40 : decode cX7_copyFrom 40 = .ok (.getfield 18, 3) := by decide +kernel
theorem dX7_copyFrom_43 : decode cX7_copyFrom 43 = .ok (.iconst 0, 1) := by decide +kernel
theorem dX7_copyFrom_44 : decode cX7_copyFrom 44 = .ok (.aload_n 0, 1) := by decide +kernel
theorem dX7_copyFrom_45 : decode cX7_copyFrom 45 = .ok (.getfield 18, 3) := by decide +kernel
theorem dX7_copyFrom_48 : decode cX7_copyFrom 48 = .ok (.iconst 0, 1) := by decide +kernel
theorem dX7_copyFrom_49 : decode cX7_copyFrom 49 = .ok (.sipush 1200, 3) := by decide +kernel
theorem dX7_copyFrom_52 : decode cX7_copyFrom 52 = .ok (.invokestatic 28, 3) := by decide +kernel
theorem dX7_copyFrom_55 : decode cX7_copyFrom 55 = .ok (.aload_n 1, 1) := by decide +kernel
theorem dX7_copyFrom_56 : decode cX7_copyFrom 56 = .ok (.getfield 21, 3) := by decide +kernel
theorem dX7_copyFrom_59 : decode cX7_copyFrom 59 = .ok (.iconst 0, 1) := by decide +kernel
theorem dX7_copyFrom_60 : decode cX7_copyFrom 60 = .ok (.aload_n 0, 1) := by decide +kernel
theorem dX7_copyFrom_61 : decode cX7_copyFrom 61 = .ok (.getfield 21, 3) := by decide +kernel
theorem dX7_copyFrom_64 : decode cX7_copyFrom 64 = .ok (.iconst 0, 1) := by decide +kernel
theorem dX7_copyFrom_65 : decode cX7_copyFrom 65 = .ok (.bipush 60, 2) := by decide +kernel
theorem dX7_copyFrom_67 : decode cX7_copyFrom 67 = .ok (.invokestatic 28, 3) := by decide +kernel
theorem dX7_copyFrom_70 : decode cX7_copyFrom 70 = .ok (.return_, 1) := by decide +kernel
theorem dX7_cellOf_0 : decode cX7_cellOf 0 = .ok (.aload_n 0, 1) := by decide +kernel
theorem dX7_cellOf_1 : decode cX7_cellOf 1 = .ok (.getfield 15, 3) := by decide +kernel
theorem dX7_cellOf_4 : decode cX7_cellOf 4 = .ok (.iconst 0, 1) := by decide +kernel
theorem dX7_cellOf_5 : decode cX7_cellOf 5 = .ok (.iload_n 1, 1) := by decide +kernel
theorem dX7_cellOf_6 : decode cX7_cellOf 6 = .ok (.iadd, 1) := by decide +kernel
theorem dX7_cellOf_7 : decode cX7_cellOf 7 = .ok (.iaload, 1) := by decide +kernel
theorem dX7_cellOf_8 : decode cX7_cellOf 8 = .ok (.ireturn, 1) := by decide +kernel
theorem dX7_tickOf_0 : decode cX7_tickOf 0 = .ok (.aload_n 0, 1) := by decide +kernel
theorem dX7_tickOf_1 : decode cX7_tickOf 1 = .ok (.getfield 15, 3) := by decide +kernel
theorem dX7_tickOf_4 : decode cX7_tickOf 4 = .ok (.bipush 60, 2) := by decide +kernel
theorem dX7_tickOf_6 : decode cX7_tickOf 6 = .ok (.iload_n 1, 1) := by decide +kernel
theorem dX7_tickOf_7 : decode cX7_tickOf 7 = .ok (.iadd, 1) := by decide +kernel
theorem dX7_tickOf_8 : decode cX7_tickOf 8 = .ok (.iaload, 1) := by decide +kernel
theorem dX7_tickOf_9 : decode cX7_tickOf 9 = .ok (.ireturn, 1) := by decide +kernel
theorem dX7_kindOf_0 : decode cX7_kindOf 0 = .ok (.aload_n 0, 1) := by decide +kernel
theorem dX7_kindOf_1 : decode cX7_kindOf 1 = .ok (.getfield 15, 3) := by decide +kernel
theorem dX7_kindOf_4 : decode cX7_kindOf 4 = .ok (.bipush 120, 2) := by decide +kernel
theorem dX7_kindOf_6 : decode cX7_kindOf 6 = .ok (.iload_n 1, 1) := by decide +kernel
theorem dX7_kindOf_7 : decode cX7_kindOf 7 = .ok (.iadd, 1) := by decide +kernel
theorem dX7_kindOf_8 : decode cX7_kindOf 8 = .ok (.iaload, 1) := by decide +kernel
theorem dX7_kindOf_9 : decode cX7_kindOf 9 = .ok (.ireturn, 1) := by decide +kernel
theorem dX7_breaksOfKind_0 : decode cX7_breaksOfKind 0 = .ok (.iconst 0, 1) := by decide +kernel
theorem dX7_breaksOfKind_1 : decode cX7_breaksOfKind 1 = .ok (.istore_n 2, 1) := by decide +kernel
theorem dX7_breaksOfKind_2 : decode cX7_breaksOfKind 2 = .ok (.iconst 0, 1) := by decide +kernel
theorem dX7_breaksOfKind_3 : decode cX7_breaksOfKind 3 = .ok (.istore_n 3, 1) := by decide +kernel
theorem dX7_breaksOfKind_4 : decode cX7_breaksOfKind 4 = .ok (.iload_n 3, 1) := by decide +kernel
theorem dX7_breaksOfKind_5 : decode cX7_breaksOfKind 5 = .ok (.aload_n 0, 1) := by decide +kernel
theorem dX7_breaksOfKind_6 : decode cX7_breaksOfKind 6 = .ok (.getfield 9, 3) := by decide +kernel
theorem dX7_breaksOfKind_9 : decode cX7_breaksOfKind 9 = .ok (.iconst 0, 1) := by decide +kernel
theorem dX7_breaksOfKind_10 : decode cX7_breaksOfKind 10 = .ok (.iaload, 1) := by decide +kernel
theorem dX7_breaksOfKind_11 : decode cX7_breaksOfKind 11 = .ok (.if_icmp .ge 21, 3) := by decide +kernel
theorem dX7_breaksOfKind_14 : decode cX7_breaksOfKind 14 = .ok (.aload_n 0, 1) := by decide +kernel
theorem dX7_breaksOfKind_15 : decode cX7_breaksOfKind 15 = .ok (.iload_n 3, 1) := by decide +kernel
theorem dX7_breaksOfKind_16 : decode cX7_breaksOfKind 16 = .ok (.invokevirtual 34, 3) := by decide +kernel
theorem dX7_breaksOfKind_19 : decode cX7_breaksOfKind 19 = .ok (.iload_n 1, 1) := by decide +kernel
theorem dX7_breaksOfKind_20 : decode cX7_breaksOfKind 20 = .ok (.if_icmp .ne 6, 3) := by decide +kernel
theorem dX7_breaksOfKind_23 : decode cX7_breaksOfKind 23 = .ok (.iinc 2 1, 3) := by decide +kernel
theorem dX7_breaksOfKind_26 : decode cX7_breaksOfKind 26 = .ok (.iinc 3 1, 3) := by decide +kernel
theorem dX7_breaksOfKind_29 : decode cX7_breaksOfKind 29 = .ok (.goto (-25), 3) := by decide +kernel
theorem dX7_breaksOfKind_32 : decode cX7_breaksOfKind 32 = .ok (.iload_n 2, 1) := by decide +kernel
theorem dX7_breaksOfKind_33 : decode cX7_breaksOfKind 33 = .ok (.ireturn, 1) := by decide +kernel
theorem dX7_breakAt_0 : decode cX7_breakAt 0 = .ok (.iconst 0, 1) := by decide +kernel
theorem dX7_breakAt_1 : decode cX7_breakAt 1 = .ok (.istore_n 2, 1) := by decide +kernel
theorem dX7_breakAt_2 : decode cX7_breakAt 2 = .ok (.iload_n 2, 1) := by decide +kernel
theorem dX7_breakAt_3 : decode cX7_breakAt 3 = .ok (.aload_n 0, 1) := by decide +kernel
theorem dX7_breakAt_4 : decode cX7_breakAt 4 = .ok (.getfield 9, 3) := by decide +kernel
theorem dX7_breakAt_7 : decode cX7_breakAt 7 = .ok (.iconst 0, 1) := by decide +kernel
theorem dX7_breakAt_8 : decode cX7_breakAt 8 = .ok (.iaload, 1) := by decide +kernel
theorem dX7_breakAt_9 : decode cX7_breakAt 9 = .ok (.if_icmp .ge 20, 3) := by decide +kernel
theorem dX7_breakAt_12 : decode cX7_breakAt 12 = .ok (.aload_n 0, 1) := by decide +kernel
theorem dX7_breakAt_13 : decode cX7_breakAt 13 = .ok (.iload_n 2, 1) := by decide +kernel
theorem dX7_breakAt_14 : decode cX7_breakAt 14 = .ok (.invokevirtual 38, 3) := by decide +kernel
theorem dX7_breakAt_17 : decode cX7_breakAt 17 = .ok (.iload_n 1, 1) := by decide +kernel
theorem dX7_breakAt_18 : decode cX7_breakAt 18 = .ok (.if_icmp .ne 5, 3) := by decide +kernel
theorem dX7_breakAt_21 : decode cX7_breakAt 21 = .ok (.iload_n 2, 1) := by decide +kernel
theorem dX7_breakAt_22 : decode cX7_breakAt 22 = .ok (.ireturn, 1) := by decide +kernel
theorem dX7_breakAt_23 : decode cX7_breakAt 23 = .ok (.iinc 2 1, 3) := by decide +kernel
theorem dX7_breakAt_26 : decode cX7_breakAt 26 = .ok (.goto (-24), 3) := by decide +kernel
theorem dX7_breakAt_29 : decode cX7_breakAt 29 = .ok (.iconst (-1), 1) := by decide +kernel
theorem dX7_breakAt_30 : decode cX7_breakAt 30 = .ok (.ireturn, 1) := by decide +kernel
theorem dX7_causeAt_0 : decode cX7_causeAt 0 = .ok (.aload_n 0, 1) := by decide +kernel
theorem dX7_causeAt_1 : decode cX7_causeAt 1 = .ok (.iload_n 1, 1) := by decide +kernel
theorem dX7_causeAt_2 : decode cX7_causeAt 2 = .ok (.invokevirtual 41, 3) := by decide +kernel
theorem dX7_causeAt_5 : decode cX7_causeAt 5 = .ok (.istore_n 2, 1) := by decide +kernel
theorem dX7_causeAt_6 : decode cX7_causeAt 6 = .ok (.iload_n 2, 1) := by decide +kernel
theorem dX7_causeAt_7 : decode cX7_causeAt 7 = .ok (.iconst (-1), 1) := by decide +kernel
theorem dX7_causeAt_8 : decode cX7_causeAt 8 = .ok (.if_icmp .ne 7, 3) := by decide +kernel
theorem dX7_causeAt_11 : decode cX7_causeAt 11 = .ok (.iconst 0, 1) := by decide +kernel
theorem dX7_causeAt_12 : decode cX7_causeAt 12 = .ok (.goto 13, 3) := by decide +kernel
theorem dX7_causeAt_15 : decode cX7_causeAt 15 = .ok (.aload_n 0, 1) := by decide +kernel
theorem dX7_causeAt_16 : decode cX7_causeAt 16 = .ok (.getfield 15, 3) := by decide +kernel
theorem dX7_causeAt_19 : decode cX7_causeAt 19 = .ok (.sipush 180, 3) := by decide +kernel
theorem dX7_causeAt_22 : decode cX7_causeAt 22 = .ok (.iload_n 2, 1) := by decide +kernel
theorem dX7_causeAt_23 : decode cX7_causeAt 23 = .ok (.iadd, 1) := by decide +kernel
theorem dX7_causeAt_24 : decode cX7_causeAt 24 = .ok (.iaload, 1) := by decide +kernel
theorem dX7_causeAt_25 : decode cX7_causeAt 25 = .ok (.ireturn, 1) := by decide +kernel
theorem dX7_flightOf_0 : decode cX7_flightOf 0 = .ok (.iconst 0, 1) := by decide +kernel
theorem dX7_flightOf_1 : decode cX7_flightOf 1 = .ok (.istore_n 2, 1) := by decide +kernel
theorem dX7_flightOf_2 : decode cX7_flightOf 2 = .ok (.iconst 0, 1) := by decide +kernel
theorem dX7_flightOf_3 : decode cX7_flightOf 3 = .ok (.istore_n 3, 1) := by decide +kernel
theorem dX7_flightOf_4 : decode cX7_flightOf 4 = .ok (.iload_n 3, 1) := by decide +kernel
theorem dX7_flightOf_5 : decode cX7_flightOf 5 = .ok (.iload_n 1, 1) := by decide +kernel
theorem dX7_flightOf_6 : decode cX7_flightOf 6 = .ok (.if_icmp .ge 18, 3) := by decide +kernel
theorem dX7_flightOf_9 : decode cX7_flightOf 9 = .ok (.iload_n 2, 1) := by decide +kernel
theorem dX7_flightOf_10 : decode cX7_flightOf 10 = .ok (.aload_n 0, 1) := by decide +kernel
theorem dX7_flightOf_11 : decode cX7_flightOf 11 = .ok (.getfield 21, 3) := by decide +kernel
theorem dX7_flightOf_14 : decode cX7_flightOf 14 = .ok (.iload_n 3, 1) := by decide +kernel
theorem dX7_flightOf_15 : decode cX7_flightOf 15 = .ok (.iaload, 1) := by decide +kernel
theorem dX7_flightOf_16 : decode cX7_flightOf 16 = .ok (.iadd, 1) := by decide +kernel
theorem dX7_flightOf_17 : decode cX7_flightOf 17 = .ok (.istore_n 2, 1) := by decide +kernel
theorem dX7_flightOf_18 : decode cX7_flightOf 18 = .ok (.iinc 3 1, 3) := by decide +kernel
theorem dX7_flightOf_21 : decode cX7_flightOf 21 = .ok (.goto (-17), 3) := by decide +kernel
theorem dX7_flightOf_24 : decode cX7_flightOf 24 = .ok (.iconst 1, 1) := by decide +kernel
theorem dX7_flightOf_25 : decode cX7_flightOf 25 = .ok (.aload_n 0, 1) := by decide +kernel
theorem dX7_flightOf_26 : decode cX7_flightOf 26 = .ok (.getfield 21, 3) := by decide +kernel
theorem dX7_flightOf_29 : decode cX7_flightOf 29 = .ok (.iload_n 1, 1) := by decide +kernel
theorem dX7_flightOf_30 : decode cX7_flightOf 30 = .ok (.iaload, 1) := by decide +kernel
theorem dX7_flightOf_31 : decode cX7_flightOf 31 = .ok (.invokestatic 44, 3) := by decide +kernel
theorem dX7_flightOf_34 : decode cX7_flightOf 34 = .ok (.istore_n 3, 1) := by decide +kernel
theorem dX7_flightOf_35 : decode cX7_flightOf 35 = .ok (.aload_n 0, 1) := by decide +kernel
theorem dX7_flightOf_36 : decode cX7_flightOf 36 = .ok (.iload_n 2, 1) := by decide +kernel
theorem dX7_flightOf_37 : decode cX7_flightOf 37 = .ok (.iconst 1, 1) := by decide +kernel
theorem dX7_flightOf_38 : decode cX7_flightOf 38 = .ok (.isub, 1) := by decide +kernel
theorem dX7_flightOf_39 : decode cX7_flightOf 39 = .ok (.invokevirtual 50, 3) := by decide +kernel
theorem dX7_flightOf_42 : decode cX7_flightOf 42 = .ok (.aload_n 0, 1) := by decide +kernel
theorem dX7_flightOf_43 : decode cX7_flightOf 43 = .ok (.iload_n 2, 1) := by decide +kernel
theorem dX7_flightOf_44 : decode cX7_flightOf 44 = .ok (.iload_n 3, 1) := by decide +kernel
theorem dX7_flightOf_45 : decode cX7_flightOf 45 = .ok (.iadd, 1) := by decide +kernel
theorem dX7_flightOf_46 : decode cX7_flightOf 46 = .ok (.iconst 1, 1) := by decide +kernel
theorem dX7_flightOf_47 : decode cX7_flightOf 47 = .ok (.isub, 1) := by decide +kernel
theorem dX7_flightOf_48 : decode cX7_flightOf 48 = .ok (.invokevirtual 50, 3) := by decide +kernel
theorem dX7_flightOf_51 : decode cX7_flightOf 51 = .ok (.iadd, 1) := by decide +kernel
theorem dX7_flightOf_52 : decode cX7_flightOf 52 = .ok (.iload_n 3, 1) := by decide +kernel
theorem dX7_flightOf_53 : decode cX7_flightOf 53 = .ok (.idiv, 1) := by decide +kernel
theorem dX7_flightOf_54 : decode cX7_flightOf 54 = .ok (.ireturn, 1) := by decide +kernel
theorem dX7_turnAhead_0 : decode cX7_turnAhead 0 = .ok (.aload_n 0, 1) := by decide +kernel
theorem dX7_turnAhead_1 : decode cX7_turnAhead 1 = .ok (.getfield 9, 3) := by decide +kernel
theorem dX7_turnAhead_4 : decode cX7_turnAhead 4 = .ok (.iconst 0, 1) := by decide +kernel
theorem dX7_turnAhead_5 : decode cX7_turnAhead 5 = .ok (.iaload, 1) := by decide +kernel
theorem dX7_turnAhead_6 : decode cX7_turnAhead 6 = .ok (.iconst 2, 1) := by decide +kernel
theorem dX7_turnAhead_7 : decode cX7_turnAhead 7 = .ok (.if_icmp .ge 7, 3) := by decide +kernel
theorem dX7_turnAhead_10 : decode cX7_turnAhead 10 = .ok (.iconst 0, 1) := by decide +kernel
theorem dX7_turnAhead_11 : decode cX7_turnAhead 11 = .ok (.goto 22, 3) := by decide +kernel
theorem dX7_turnAhead_14 : decode cX7_turnAhead 14 = .ok (.aload_n 0, 1) := by decide +kernel
theorem dX7_turnAhead_15 : decode cX7_turnAhead 15 = .ok (.getfield 24, 3) := by decide +kernel
theorem dX7_turnAhead_18 : decode cX7_turnAhead 18 = .ok (.aload_n 0, 1) := by decide +kernel
theorem dX7_turnAhead_19 : decode cX7_turnAhead 19 = .ok (.iconst 1, 1) := by decide +kernel
theorem dX7_turnAhead_20 : decode cX7_turnAhead 20 = .ok (.invokevirtual 38, 3) := by decide +kernel
theorem dX7_turnAhead_23 : decode cX7_turnAhead 23 = .ok (.aload_n 0, 1) := by decide +kernel
theorem dX7_turnAhead_24 : decode cX7_turnAhead 24 = .ok (.iconst 0, 1) := by decide +kernel
theorem dX7_turnAhead_25 : decode cX7_turnAhead 25 = .ok (.invokevirtual 38, 3) := by decide +kernel
theorem dX7_turnAhead_28 : decode cX7_turnAhead 28 = .ok (.isub, 1) := by decide +kernel
theorem dX7_turnAhead_29 : decode cX7_turnAhead 29 = .ok (.invokestatic 53, 3) := by decide +kernel
theorem dX7_turnAhead_32 : decode cX7_turnAhead 32 = .ok (.imul, 1) := by decide +kernel
theorem dX7_turnAhead_33 : decode cX7_turnAhead 33 = .ok (.ireturn, 1) := by decide +kernel
theorem dX7_longestPiece_0 : decode cX7_longestPiece 0 = .ok (.aload_n 0, 1) := by decide +kernel
theorem dX7_longestPiece_1 : decode cX7_longestPiece 1 = .ok (.getfield 21, 3) := by decide +kernel
theorem dX7_longestPiece_4 : decode cX7_longestPiece 4 = .ok (.iconst 0, 1) := by decide +kernel
theorem dX7_longestPiece_5 : decode cX7_longestPiece 5 = .ok (.iaload, 1) := by decide +kernel
theorem dX7_longestPiece_6 : decode cX7_longestPiece 6 = .ok (.istore_n 1, 1) := by decide +kernel
theorem dX7_longestPiece_7 : decode cX7_longestPiece 7 = .ok (.iconst 1, 1) := by decide +kernel
theorem dX7_longestPiece_8 : decode cX7_longestPiece 8 = .ok (.istore_n 2, 1) := by decide +kernel
theorem dX7_longestPiece_9 : decode cX7_longestPiece 9 = .ok (.iload_n 2, 1) := by decide +kernel
theorem dX7_longestPiece_10 : decode cX7_longestPiece 10 = .ok (.aload_n 0, 1) := by decide +kernel
theorem dX7_longestPiece_11 : decode cX7_longestPiece 11 = .ok (.getfield 9, 3) := by decide +kernel
theorem dX7_longestPiece_14 : decode cX7_longestPiece 14 = .ok (.iconst 1, 1) := by decide +kernel
theorem dX7_longestPiece_15 : decode cX7_longestPiece 15 = .ok (.iaload, 1) := by decide +kernel
theorem dX7_longestPiece_16 : decode cX7_longestPiece 16 = .ok (.if_icmp .ge 20, 3) := by decide +kernel
theorem dX7_longestPiece_19 : decode cX7_longestPiece 19 = .ok (.iload_n 1, 1) := by decide +kernel
theorem dX7_longestPiece_20 : decode cX7_longestPiece 20 = .ok (.aload_n 0, 1) := by decide +kernel
theorem dX7_longestPiece_21 : decode cX7_longestPiece 21 = .ok (.getfield 21, 3) := by decide +kernel
theorem dX7_longestPiece_24 : decode cX7_longestPiece 24 = .ok (.iload_n 2, 1) := by decide +kernel
theorem dX7_longestPiece_25 : decode cX7_longestPiece 25 = .ok (.iaload, 1) := by decide +kernel
theorem dX7_longestPiece_26 : decode cX7_longestPiece 26 = .ok (.invokestatic 44, 3) := by decide +kernel
theorem dX7_longestPiece_29 : decode cX7_longestPiece 29 = .ok (.istore_n 1, 1) := by decide +kernel
theorem dX7_longestPiece_30 : decode cX7_longestPiece 30 = .ok (.iinc 2 1, 3) := by decide +kernel
theorem dX7_longestPiece_33 : decode cX7_longestPiece 33 = .ok (.goto (-24), 3) := by decide +kernel
theorem dX7_longestPiece_36 : decode cX7_longestPiece 36 = .ok (.iload_n 1, 1) := by decide +kernel
theorem dX7_longestPiece_37 : decode cX7_longestPiece 37 = .ok (.ireturn, 1) := by decide +kernel
theorem dX7_shortestPiece_0 : decode cX7_shortestPiece 0 = .ok (.aload_n 0, 1) := by decide +kernel
theorem dX7_shortestPiece_1 : decode cX7_shortestPiece 1 = .ok (.getfield 21, 3) := by decide +kernel
theorem dX7_shortestPiece_4 : decode cX7_shortestPiece 4 = .ok (.iconst 0, 1) := by decide +kernel
theorem dX7_shortestPiece_5 : decode cX7_shortestPiece 5 = .ok (.iaload, 1) := by decide +kernel
theorem dX7_shortestPiece_6 : decode cX7_shortestPiece 6 = .ok (.istore_n 1, 1) := by decide +kernel
theorem dX7_shortestPiece_7 : decode cX7_shortestPiece 7 = .ok (.iconst 1, 1) := by decide +kernel
theorem dX7_shortestPiece_8 : decode cX7_shortestPiece 8 = .ok (.istore_n 2, 1) := by decide +kernel
theorem dX7_shortestPiece_9 : decode cX7_shortestPiece 9 = .ok (.iload_n 2, 1) := by decide +kernel
theorem dX7_shortestPiece_10 : decode cX7_shortestPiece 10 = .ok (.aload_n 0, 1) := by decide +kernel
theorem dX7_shortestPiece_11 : decode cX7_shortestPiece 11 = .ok (.getfield 9, 3) := by decide +kernel
theorem dX7_shortestPiece_14 : decode cX7_shortestPiece 14 = .ok (.iconst 1, 1) := by decide +kernel
theorem dX7_shortestPiece_15 : decode cX7_shortestPiece 15 = .ok (.iaload, 1) := by decide +kernel
theorem dX7_shortestPiece_16 : decode cX7_shortestPiece 16 = .ok (.if_icmp .ge 20, 3) := by decide +kernel
theorem dX7_shortestPiece_19 : decode cX7_shortestPiece 19 = .ok (.iload_n 1, 1) := by decide +kernel
theorem dX7_shortestPiece_20 : decode cX7_shortestPiece 20 = .ok (.aload_n 0, 1) := by decide +kernel
theorem dX7_shortestPiece_21 : decode cX7_shortestPiece 21 = .ok (.getfield 21, 3) := by decide +kernel
theorem dX7_shortestPiece_24 : decode cX7_shortestPiece 24 = .ok (.iload_n 2, 1) := by decide +kernel
theorem dX7_shortestPiece_25 : decode cX7_shortestPiece 25 = .ok (.iaload, 1) := by decide +kernel
theorem dX7_shortestPiece_26 : decode cX7_shortestPiece 26 = .ok (.invokestatic 56, 3) := by decide +kernel
theorem dX7_shortestPiece_29 : decode cX7_shortestPiece 29 = .ok (.istore_n 1, 1) := by decide +kernel
theorem dX7_shortestPiece_30 : decode cX7_shortestPiece 30 = .ok (.iinc 2 1, 3) := by decide +kernel
theorem dX7_shortestPiece_33 : decode cX7_shortestPiece 33 = .ok (.goto (-24), 3) := by decide +kernel
theorem dX7_shortestPiece_36 : decode cX7_shortestPiece 36 = .ok (.iload_n 1, 1) := by decide +kernel
theorem dX7_shortestPiece_37 : decode cX7_shortestPiece 37 = .ok (.ireturn, 1) := by decide +kernel
theorem dX7_holdsTicks_0 : decode cX7_holdsTicks 0 = .ok (.iconst 0, 1) := by decide +kernel
theorem dX7_holdsTicks_1 : decode cX7_holdsTicks 1 = .ok (.istore_n 2, 1) := by decide +kernel
theorem dX7_holdsTicks_2 : decode cX7_holdsTicks 2 = .ok (.iconst 0, 1) := by decide +kernel
theorem dX7_holdsTicks_3 : decode cX7_holdsTicks 3 = .ok (.istore_n 3, 1) := by decide +kernel
theorem dX7_holdsTicks_4 : decode cX7_holdsTicks 4 = .ok (.iload_n 3, 1) := by decide +kernel
theorem dX7_holdsTicks_5 : decode cX7_holdsTicks 5 = .ok (.aload_n 1, 1) := by decide +kernel
theorem dX7_holdsTicks_6 : decode cX7_holdsTicks 6 = .ok (.getfield 59, 3) := by decide +kernel
theorem dX7_holdsTicks_9 : decode cX7_holdsTicks 9 = .ok (.if_icmp .ge 51, 3) := by decide +kernel
theorem dX7_holdsTicks_12 : decode cX7_holdsTicks 12 = .ok (.aload_n 1, 1) := by decide +kernel
theorem dX7_holdsTicks_13 : decode cX7_holdsTicks 13 = .ok (.getfield 64, 3) := by decide +kernel
theorem dX7_holdsTicks_16 : decode cX7_holdsTicks 16 = .ok (.iload_n 3, 1) := by decide +kernel
theorem dX7_holdsTicks_17 : decode cX7_holdsTicks 17 = .ok (.laload, 1) := by decide +kernel
theorem dX7_holdsTicks_18 : decode cX7_holdsTicks 18 = .ok (.lconst 0, 1) := by decide +kernel
theorem dX7_holdsTicks_19 : decode cX7_holdsTicks 19 = .ok (.lcmp, 1) := by decide +kernel
theorem dX7_holdsTicks_20 : decode cX7_holdsTicks 20 = .ok (.ifCond .lt 40, 3) := by decide +kernel
theorem dX7_holdsTicks_23 : decode cX7_holdsTicks 23 = .ok (.iload_n 3, 1) := by decide +kernel
theorem dX7_holdsTicks_24 : decode cX7_holdsTicks 24 = .ok (.aload_n 0, 1) := by decide +kernel
theorem dX7_holdsTicks_25 : decode cX7_holdsTicks 25 = .ok (.getfield 9, 3) := by decide +kernel
theorem dX7_holdsTicks_28 : decode cX7_holdsTicks 28 = .ok (.iconst 0, 1) := by decide +kernel
theorem dX7_holdsTicks_29 : decode cX7_holdsTicks 29 = .ok (.iaload, 1) := by decide +kernel
theorem dX7_holdsTicks_30 : decode cX7_holdsTicks 30 = .ok (.if_icmp .ge 19, 3) := by decide +kernel
theorem dX7_holdsTicks_33 : decode cX7_holdsTicks 33 = .ok (.aload_n 1, 1) := by decide +kernel
theorem dX7_holdsTicks_34 : decode cX7_holdsTicks 34 = .ok (.getfield 64, 3) := by decide +kernel
theorem dX7_holdsTicks_37 : decode cX7_holdsTicks 37 = .ok (.iload_n 3, 1) := by decide +kernel
theorem dX7_holdsTicks_38 : decode cX7_holdsTicks 38 = .ok (.laload, 1) := by decide +kernel
theorem dX7_holdsTicks_39 : decode cX7_holdsTicks 39 = .ok (.aload_n 0, 1) := by decide +kernel
theorem dX7_holdsTicks_40 : decode cX7_holdsTicks 40 = .ok (.iload_n 3, 1) := by decide +kernel
theorem dX7_holdsTicks_41 : decode cX7_holdsTicks 41 = .ok (.invokevirtual 68, 3) := by decide +kernel
theorem dX7_holdsTicks_44 : decode cX7_holdsTicks 44 = .ok (.i2l, 1) := by decide +kernel
theorem dX7_holdsTicks_45 : decode cX7_holdsTicks 45 = .ok (.lcmp, 1) := by decide +kernel
theorem dX7_holdsTicks_46 : decode cX7_holdsTicks 46 = .ok (.ifCond .eq 5, 3) := by decide +kernel
theorem dX7_holdsTicks_49 : decode cX7_holdsTicks 49 = .ok (.iconst 0, 1) := by decide +kernel
theorem dX7_holdsTicks_50 : decode cX7_holdsTicks 50 = .ok (.ireturn, 1) := by decide +kernel
theorem dX7_holdsTicks_51 : decode cX7_holdsTicks 51 = .ok (.iinc 2 1, 3) := by decide +kernel
theorem dX7_holdsTicks_54 : decode cX7_holdsTicks 54 = .ok (.iinc 3 1, 3) := by decide +kernel
theorem dX7_holdsTicks_57 : decode cX7_holdsTicks 57 = .ok (.goto (-53), 3) := by decide +kernel
theorem dX7_holdsTicks_60 : decode cX7_holdsTicks 60 = .ok (.iload_n 2, 1) := by decide +kernel
theorem dX7_holdsTicks_61 : decode cX7_holdsTicks 61 = .ok (.aload_n 0, 1) := by decide +kernel
theorem dX7_holdsTicks_62 : decode cX7_holdsTicks 62 = .ok (.getfield 9, 3) := by decide +kernel
theorem dX7_holdsTicks_65 : decode cX7_holdsTicks 65 = .ok (.iconst 0, 1) := by decide +kernel
theorem dX7_holdsTicks_66 : decode cX7_holdsTicks 66 = .ok (.iaload, 1) := by decide +kernel
theorem dX7_holdsTicks_67 : decode cX7_holdsTicks 67 = .ok (.if_icmp .ne 7, 3) := by decide +kernel
theorem dX7_holdsTicks_70 : decode cX7_holdsTicks 70 = .ok (.iconst 1, 1) := by decide +kernel
theorem dX7_holdsTicks_71 : decode cX7_holdsTicks 71 = .ok (.goto 4, 3) := by decide +kernel
theorem dX7_holdsTicks_74 : decode cX7_holdsTicks 74 = .ok (.iconst 0, 1) := by decide +kernel
theorem dX7_holdsTicks_75 : decode cX7_holdsTicks 75 = .ok (.ireturn, 1) := by decide +kernel
theorem dX7_hasPieces_0 : decode cX7_hasPieces 0 = .ok (.iconst 0, 1) := by decide +kernel
theorem dX7_hasPieces_1 : decode cX7_hasPieces 1 = .ok (.istore_n 2, 1) := by decide +kernel
theorem dX7_hasPieces_2 : decode cX7_hasPieces 2 = .ok (.iconst 0, 1) := by decide +kernel
theorem dX7_hasPieces_3 : decode cX7_hasPieces 3 = .ok (.istore_n 3, 1) := by decide +kernel
theorem dX7_hasPieces_4 : decode cX7_hasPieces 4 = .ok (.iload_n 3, 1) := by decide +kernel
theorem dX7_hasPieces_5 : decode cX7_hasPieces 5 = .ok (.aload_n 1, 1) := by decide +kernel
theorem dX7_hasPieces_6 : decode cX7_hasPieces 6 = .ok (.getfield 59, 3) := by decide +kernel
theorem dX7_hasPieces_9 : decode cX7_hasPieces 9 = .ok (.if_icmp .ge 52, 3) := by decide +kernel
theorem dX7_hasPieces_12 : decode cX7_hasPieces 12 = .ok (.aload_n 1, 1) := by decide +kernel
theorem dX7_hasPieces_13 : decode cX7_hasPieces 13 = .ok (.getfield 64, 3) := by decide +kernel
theorem dX7_hasPieces_16 : decode cX7_hasPieces 16 = .ok (.iload_n 3, 1) := by decide +kernel
theorem dX7_hasPieces_17 : decode cX7_hasPieces 17 = .ok (.laload, 1) := by decide +kernel
theorem dX7_hasPieces_18 : decode cX7_hasPieces 18 = .ok (.lconst 0, 1) := by decide +kernel
theorem dX7_hasPieces_19 : decode cX7_hasPieces 19 = .ok (.lcmp, 1) := by decide +kernel
theorem dX7_hasPieces_20 : decode cX7_hasPieces 20 = .ok (.ifCond .eq 41, 3) := by decide +kernel
theorem dX7_hasPieces_23 : decode cX7_hasPieces 23 = .ok (.iload_n 3, 1) := by decide +kernel
theorem dX7_hasPieces_24 : decode cX7_hasPieces 24 = .ok (.aload_n 0, 1) := by decide +kernel
theorem dX7_hasPieces_25 : decode cX7_hasPieces 25 = .ok (.getfield 9, 3) := by decide +kernel
theorem dX7_hasPieces_28 : decode cX7_hasPieces 28 = .ok (.iconst 1, 1) := by decide +kernel
theorem dX7_hasPieces_29 : decode cX7_hasPieces 29 = .ok (.iaload, 1) := by decide +kernel
theorem dX7_hasPieces_30 : decode cX7_hasPieces 30 = .ok (.if_icmp .ge 20, 3) := by decide +kernel
theorem dX7_hasPieces_33 : decode cX7_hasPieces 33 = .ok (.aload_n 1, 1) := by decide +kernel
theorem dX7_hasPieces_34 : decode cX7_hasPieces 34 = .ok (.getfield 64, 3) := by decide +kernel
theorem dX7_hasPieces_37 : decode cX7_hasPieces 37 = .ok (.iload_n 3, 1) := by decide +kernel
theorem dX7_hasPieces_38 : decode cX7_hasPieces 38 = .ok (.laload, 1) := by decide +kernel
theorem dX7_hasPieces_39 : decode cX7_hasPieces 39 = .ok (.aload_n 0, 1) := by decide +kernel
theorem dX7_hasPieces_40 : decode cX7_hasPieces 40 = .ok (.getfield 21, 3) := by decide +kernel
theorem dX7_hasPieces_43 : decode cX7_hasPieces 43 = .ok (.iload_n 3, 1) := by decide +kernel
theorem dX7_hasPieces_44 : decode cX7_hasPieces 44 = .ok (.iaload, 1) := by decide +kernel
theorem dX7_hasPieces_45 : decode cX7_hasPieces 45 = .ok (.i2l, 1) := by decide +kernel
theorem dX7_hasPieces_46 : decode cX7_hasPieces 46 = .ok (.lcmp, 1) := by decide +kernel
theorem dX7_hasPieces_47 : decode cX7_hasPieces 47 = .ok (.ifCond .eq 5, 3) := by decide +kernel
theorem dX7_hasPieces_50 : decode cX7_hasPieces 50 = .ok (.iconst 0, 1) := by decide +kernel
theorem dX7_hasPieces_51 : decode cX7_hasPieces 51 = .ok (.ireturn, 1) := by decide +kernel
theorem dX7_hasPieces_52 : decode cX7_hasPieces 52 = .ok (.iinc 2 1, 3) := by decide +kernel
theorem dX7_hasPieces_55 : decode cX7_hasPieces 55 = .ok (.iinc 3 1, 3) := by decide +kernel
theorem dX7_hasPieces_58 : decode cX7_hasPieces 58 = .ok (.goto (-54), 3) := by decide +kernel
theorem dX7_hasPieces_61 : decode cX7_hasPieces 61 = .ok (.iload_n 2, 1) := by decide +kernel
theorem dX7_hasPieces_62 : decode cX7_hasPieces 62 = .ok (.aload_n 0, 1) := by decide +kernel
theorem dX7_hasPieces_63 : decode cX7_hasPieces 63 = .ok (.getfield 9, 3) := by decide +kernel
theorem dX7_hasPieces_66 : decode cX7_hasPieces 66 = .ok (.iconst 1, 1) := by decide +kernel
theorem dX7_hasPieces_67 : decode cX7_hasPieces 67 = .ok (.iaload, 1) := by decide +kernel
theorem dX7_hasPieces_68 : decode cX7_hasPieces 68 = .ok (.if_icmp .ne 7, 3) := by decide +kernel
theorem dX7_hasPieces_71 : decode cX7_hasPieces 71 = .ok (.iconst 1, 1) := by decide +kernel
theorem dX7_hasPieces_72 : decode cX7_hasPieces 72 = .ok (.goto 4, 3) := by decide +kernel
theorem dX7_hasPieces_75 : decode cX7_hasPieces 75 = .ok (.iconst 0, 1) := by decide +kernel
theorem dX7_hasPieces_76 : decode cX7_hasPieces 76 = .ok (.ireturn, 1) := by decide +kernel
theorem dX8_init_0 : decode cX8_init 0 = .ok (.aload_n 0, 1) := by decide +kernel
theorem dX8_init_1 : decode cX8_init 1 = .ok (.invokespecial 3, 3) := by decide +kernel
theorem dX8_init_4 : decode cX8_init 4 = .ok (.aload_n 0, 1) := by decide +kernel
theorem dX8_init_5 : decode cX8_init 5 = .ok (.iconst 4, 1) := by decide +kernel
theorem dX8_init_6 : decode cX8_init 6 = .ok (.anewarray 9, 3) := by decide +kernel
theorem dX8_init_9 : decode cX8_init 9 = .ok (.putfield 11, 3) := by decide +kernel
theorem dX8_init_12 : decode cX8_init 12 = .ok (.aload_n 0, 1) := by decide +kernel
theorem dX8_init_13 : decode cX8_init 13 = .ok (.iconst 4, 1) := by decide +kernel
theorem dX8_init_14 : decode cX8_init 14 = .ok (.anewarray 17, 3) := by decide +kernel
theorem dX8_init_17 : decode cX8_init 17 = .ok (.putfield 19, 3) := by decide +kernel
theorem dX8_init_20 : decode cX8_init 20 = .ok (.aload_n 0, 1) := by decide +kernel
theorem dX8_init_21 : decode cX8_init 21 = .ok (.new 23, 3) := by decide +kernel
theorem dX8_init_24 : decode cX8_init 24 = .ok (.dup, 1) := by decide +kernel
theorem dX8_init_25 : decode cX8_init 25 = .ok (.invokespecial 25, 3) := by decide +kernel
theorem dX8_init_28 : decode cX8_init 28 = .ok (.putfield 26, 3) := by decide +kernel
theorem dX8_init_31 : decode cX8_init 31 = .ok (.aload_n 0, 1) := by decide +kernel
theorem dX8_init_32 : decode cX8_init 32 = .ok (.new 30, 3) := by decide +kernel
theorem dX8_init_35 : decode cX8_init 35 = .ok (.dup, 1) := by decide +kernel
theorem dX8_init_36 : decode cX8_init 36 = .ok (.invokespecial 32, 3) := by decide +kernel
theorem dX8_init_39 : decode cX8_init 39 = .ok (.putfield 33, 3) := by decide +kernel
theorem dX8_init_42 : decode cX8_init 42 = .ok (.aload_n 0, 1) := by decide +kernel
theorem dX8_init_43 : decode cX8_init 43 = .ok (.new 37, 3) := by decide +kernel
theorem dX8_init_46 : decode cX8_init 46 = .ok (.dup, 1) := by decide +kernel
theorem dX8_init_47 : decode cX8_init 47 = .ok (.invokespecial 39, 3) := by decide +kernel
theorem dX8_init_50 : decode cX8_init 50 = .ok (.putfield 40, 3) := by decide +kernel
theorem dX8_init_53 : decode cX8_init 53 = .ok (.iconst 0, 1) := by decide +kernel
theorem dX8_init_54 : decode cX8_init 54 = .ok (.istore_n 1, 1) := by decide +kernel
theorem dX8_init_55 : decode cX8_init 55 = .ok (.iload_n 1, 1) := by decide +kernel
theorem dX8_init_56 : decode cX8_init 56 = .ok (.iconst 4, 1) := by decide +kernel
theorem dX8_init_57 : decode cX8_init 57 = .ok (.if_icmp .ge 22, 3) := by decide +kernel
theorem dX8_init_60 : decode cX8_init 60 = .ok (.aload_n 0, 1) := by decide +kernel
theorem dX8_init_61 : decode cX8_init 61 = .ok (.getfield 11, 3) := by decide +kernel
theorem dX8_init_64 : decode cX8_init 64 = .ok (.iload_n 1, 1) := by decide +kernel
theorem dX8_init_65 : decode cX8_init 65 = .ok (.new 9, 3) := by decide +kernel
theorem dX8_init_68 : decode cX8_init 68 = .ok (.dup, 1) := by decide +kernel
theorem dX8_init_69 : decode cX8_init 69 = .ok (.invokespecial 44, 3) := by decide +kernel
theorem dX8_init_72 : decode cX8_init 72 = .ok (.aastore, 1) := by decide +kernel
theorem dX8_init_73 : decode cX8_init 73 = .ok (.iinc 1 1, 3) := by decide +kernel
theorem dX8_init_76 : decode cX8_init 76 = .ok (.goto (-21), 3) := by decide +kernel
theorem dX8_init_79 : decode cX8_init 79 = .ok (.iconst 0, 1) := by decide +kernel
theorem dX8_init_80 : decode cX8_init 80 = .ok (.istore_n 1, 1) := by decide +kernel
theorem dX8_init_81 : decode cX8_init 81 = .ok (.iload_n 1, 1) := by decide +kernel
theorem dX8_init_82 : decode cX8_init 82 = .ok (.iconst 4, 1) := by decide +kernel
theorem dX8_init_83 : decode cX8_init 83 = .ok (.if_icmp .ge 22, 3) := by decide +kernel
theorem dX8_init_86 : decode cX8_init 86 = .ok (.aload_n 0, 1) := by decide +kernel
theorem dX8_init_87 : decode cX8_init 87 = .ok (.getfield 19, 3) := by decide +kernel
theorem dX8_init_90 : decode cX8_init 90 = .ok (.iload_n 1, 1) := by decide +kernel
theorem dX8_init_91 : decode cX8_init 91 = .ok (.new 17, 3) := by decide +kernel
theorem dX8_init_94 : decode cX8_init 94 = .ok (.dup, 1) := by decide +kernel
theorem dX8_init_95 : decode cX8_init 95 = .ok (.invokespecial 45, 3) := by decide +kernel
theorem dX8_init_98 : decode cX8_init 98 = .ok (.aastore, 1) := by decide +kernel
theorem dX8_init_99 : decode cX8_init 99 = .ok (.iinc 1 1, 3) := by decide +kernel
theorem dX8_init_102 : decode cX8_init 102 = .ok (.goto (-21), 3) := by decide +kernel
theorem dX8_init_105 : decode cX8_init 105 = .ok (.return_, 1) := by decide +kernel
theorem dX8_copyFrom_0 : decode cX8_copyFrom 0 = .ok (.aload_n 0, 1) := by decide +kernel
theorem dX8_copyFrom_1 : decode cX8_copyFrom 1 = .ok (.aload_n 1, 1) := by decide +kernel
theorem dX8_copyFrom_2 : decode cX8_copyFrom 2 = .ok (.getfield 46, 3) := by decide +kernel
theorem dX8_copyFrom_5 : decode cX8_copyFrom 5 = .ok (.putfield 46, 3) := by decide +kernel
theorem dX8_copyFrom_8 : decode cX8_copyFrom 8 = .ok (.iconst 0, 1) := by decide +kernel
theorem dX8_copyFrom_9 : decode cX8_copyFrom 9 = .ok (.istore_n 2, 1) := by decide +kernel
theorem dX8_copyFrom_10 : decode cX8_copyFrom 10 = .ok (.iload_n 2, 1) := by decide +kernel
theorem dX8_copyFrom_11 : decode cX8_copyFrom 11 = .ok (.iconst 4, 1) := by decide +kernel
theorem dX8_copyFrom_12 : decode cX8_copyFrom 12 = .ok (.if_icmp .ge 24, 3) := by decide +kernel
theorem dX8_copyFrom_15 : decode cX8_copyFrom 15 = .ok (.aload_n 0, 1) := by decide +kernel
theorem dX8_copyFrom_16 : decode cX8_copyFrom 16 = .ok (.getfield 11, 3) := by decide +kernel
theorem dX8_copyFrom_19 : decode cX8_copyFrom 19 = .ok (.iload_n 2, 1) := by decide +kernel
theorem dX8_copyFrom_20 : decode cX8_copyFrom 20 = .ok (.aaload, 1) := by decide +kernel
theorem dX8_copyFrom_21 : decode cX8_copyFrom 21 = .ok (.aload_n 1, 1) := by decide +kernel
theorem dX8_copyFrom_22 : decode cX8_copyFrom 22 = .ok (.getfield 11, 3) := by decide +kernel
theorem dX8_copyFrom_25 : decode cX8_copyFrom 25 = .ok (.iload_n 2, 1) := by decide +kernel
theorem dX8_copyFrom_26 : decode cX8_copyFrom 26 = .ok (.aaload, 1) := by decide +kernel
theorem dX8_copyFrom_27 : decode cX8_copyFrom 27 = .ok (.invokevirtual 50, 3) := by decide +kernel
theorem dX8_copyFrom_30 : decode cX8_copyFrom 30 = .ok (.iinc 2 1, 3) := by decide +kernel
theorem dX8_copyFrom_33 : decode cX8_copyFrom 33 = .ok (.goto (-23), 3) := by decide +kernel
theorem dX8_copyFrom_36 : decode cX8_copyFrom 36 = .ok (.iconst 0, 1) := by decide +kernel
theorem dX8_copyFrom_37 : decode cX8_copyFrom 37 = .ok (.istore_n 2, 1) := by decide +kernel
theorem dX8_copyFrom_38 : decode cX8_copyFrom 38 = .ok (.iload_n 2, 1) := by decide +kernel
theorem dX8_copyFrom_39 : decode cX8_copyFrom 39 = .ok (.iconst 4, 1) := by decide +kernel
theorem dX8_copyFrom_40 : decode cX8_copyFrom 40 = .ok (.if_icmp .ge 24, 3) := by decide +kernel
theorem dX8_copyFrom_43 : decode cX8_copyFrom 43 = .ok (.aload_n 0, 1) := by decide +kernel
theorem dX8_copyFrom_44 : decode cX8_copyFrom 44 = .ok (.getfield 19, 3) := by decide +kernel
theorem dX8_copyFrom_47 : decode cX8_copyFrom 47 = .ok (.iload_n 2, 1) := by decide +kernel
theorem dX8_copyFrom_48 : decode cX8_copyFrom 48 = .ok (.aaload, 1) := by decide +kernel
theorem dX8_copyFrom_49 : decode cX8_copyFrom 49 = .ok (.aload_n 1, 1) := by decide +kernel
theorem dX8_copyFrom_50 : decode cX8_copyFrom 50 = .ok (.getfield 19, 3) := by decide +kernel
theorem dX8_copyFrom_53 : decode cX8_copyFrom 53 = .ok (.iload_n 2, 1) := by decide +kernel
theorem dX8_copyFrom_54 : decode cX8_copyFrom 54 = .ok (.aaload, 1) := by decide +kernel
theorem dX8_copyFrom_55 : decode cX8_copyFrom 55 = .ok (.invokevirtual 54, 3) := by decide +kernel
theorem dX8_copyFrom_58 : decode cX8_copyFrom 58 = .ok (.iinc 2 1, 3) := by decide +kernel
theorem dX8_copyFrom_61 : decode cX8_copyFrom 61 = .ok (.goto (-23), 3) := by decide +kernel
theorem dX8_copyFrom_64 : decode cX8_copyFrom 64 = .ok (.aload_n 0, 1) := by decide +kernel
theorem dX8_copyFrom_65 : decode cX8_copyFrom 65 = .ok (.getfield 26, 3) := by decide +kernel
theorem dX8_copyFrom_68 : decode cX8_copyFrom 68 = .ok (.aload_n 1, 1) := by decide +kernel
theorem dX8_copyFrom_69 : decode cX8_copyFrom 69 = .ok (.getfield 26, 3) := by decide +kernel
theorem dX8_copyFrom_72 : decode cX8_copyFrom 72 = .ok (.invokevirtual 57, 3) := by decide +kernel
theorem dX8_copyFrom_75 : decode cX8_copyFrom 75 = .ok (.aload_n 0, 1) := by decide +kernel
theorem dX8_copyFrom_76 : decode cX8_copyFrom 76 = .ok (.getfield 33, 3) := by decide +kernel
theorem dX8_copyFrom_79 : decode cX8_copyFrom 79 = .ok (.aload_n 1, 1) := by decide +kernel
theorem dX8_copyFrom_80 : decode cX8_copyFrom 80 = .ok (.getfield 33, 3) := by decide +kernel
theorem dX8_copyFrom_83 : decode cX8_copyFrom 83 = .ok (.invokevirtual 60, 3) := by decide +kernel
theorem dX8_copyFrom_86 : decode cX8_copyFrom 86 = .ok (.aload_n 0, 1) := by decide +kernel
theorem dX8_copyFrom_87 : decode cX8_copyFrom 87 = .ok (.getfield 40, 3) := by decide +kernel
theorem dX8_copyFrom_90 : decode cX8_copyFrom 90 = .ok (.aload_n 1, 1) := by decide +kernel
theorem dX8_copyFrom_91 : decode cX8_copyFrom 91 = .ok (.getfield 40, 3) := by decide +kernel
theorem dX8_copyFrom_94 : decode cX8_copyFrom 94 = .ok (.invokevirtual 63, 3) := by decide +kernel
theorem dX8_copyFrom_97 : decode cX8_copyFrom 97 = .ok (.return_, 1) := by decide +kernel
theorem dX8_rodsThere_0 : decode cX8_rodsThere 0 = .ok (.iconst 0, 1) := by decide +kernel
theorem dX8_rodsThere_1 : decode cX8_rodsThere 1 = .ok (.istore_n 1, 1) := by decide +kernel
theorem dX8_rodsThere_2 : decode cX8_rodsThere 2 = .ok (.iconst 0, 1) := by decide +kernel
theorem dX8_rodsThere_3 : decode cX8_rodsThere 3 = .ok (.istore_n 2, 1) := by decide +kernel
theorem dX8_rodsThere_4 : decode cX8_rodsThere 4 = .ok (.iload_n 2, 1) := by decide +kernel
theorem dX8_rodsThere_5 : decode cX8_rodsThere 5 = .ok (.iconst 4, 1) := by decide +kernel
theorem dX8_rodsThere_6 : decode cX8_rodsThere 6 = .ok (.if_icmp .ge 24, 3) := by decide +kernel
theorem dX8_rodsThere_9 : decode cX8_rodsThere 9 = .ok (.aload_n 0, 1) := by decide +kernel
theorem dX8_rodsThere_10 : decode cX8_rodsThere 10 = .ok (.getfield 11, 3) := by decide +kernel
theorem dX8_rodsThere_13 : decode cX8_rodsThere 13 = .ok (.iload_n 2, 1) := by decide +kernel
theorem dX8_rodsThere_14 : decode cX8_rodsThere 14 = .ok (.aaload, 1) := by decide +kernel
theorem dX8_rodsThere_15 : decode cX8_rodsThere 15 = .ok (.getfield 66, 3) := by decide +kernel
theorem dX8_rodsThere_18 : decode cX8_rodsThere 18 = .ok (.ifCond .le 6, 3) := by decide +kernel
theorem dX8_rodsThere_21 : decode cX8_rodsThere 21 = .ok (.iinc 1 1, 3) := by decide +kernel
theorem dX8_rodsThere_24 : decode cX8_rodsThere 24 = .ok (.iinc 2 1, 3) := by decide +kernel
theorem dX8_rodsThere_27 : decode cX8_rodsThere 27 = .ok (.goto (-23), 3) := by decide +kernel
theorem dX8_rodsThere_30 : decode cX8_rodsThere 30 = .ok (.iload_n 1, 1) := by decide +kernel
theorem dX8_rodsThere_31 : decode cX8_rodsThere 31 = .ok (.ireturn, 1) := by decide +kernel
theorem dX9_init_0 : decode cX9_init 0 = .ok (.aload_n 0, 1) := by decide +kernel
theorem dX9_init_1 : decode cX9_init 1 = .ok (.invokespecial 1, 3) := by decide +kernel
theorem dX9_init_4 : decode cX9_init 4 = .ok (.aload_n 0, 1) := by decide +kernel
theorem dX9_init_5 : decode cX9_init 5 = .ok (.new 7, 3) := by decide +kernel
theorem dX9_init_8 : decode cX9_init 8 = .ok (.dup, 1) := by decide +kernel
theorem dX9_init_9 : decode cX9_init 9 = .ok (.invokespecial 9, 3) := by decide +kernel
theorem dX9_init_12 : decode cX9_init 12 = .ok (.putfield 10, 3) := by decide +kernel
theorem dX9_init_15 : decode cX9_init 15 = .ok (.aload_n 0, 1) := by decide +kernel
theorem dX9_init_16 : decode cX9_init 16 = .ok (.new 16, 3) := by decide +kernel
theorem dX9_init_19 : decode cX9_init 19 = .ok (.dup, 1) := by decide +kernel
theorem dX9_init_20 : decode cX9_init 20 = .ok (.invokespecial 18, 3) := by decide +kernel
theorem dX9_init_23 : decode cX9_init 23 = .ok (.putfield 19, 3) := by decide +kernel
theorem dX9_init_26 : decode cX9_init 26 = .ok (.aload_n 0, 1) := by decide +kernel
theorem dX9_init_27 : decode cX9_init 27 = .ok (.iconst 2, 1) := by decide +kernel
theorem dX9_init_28 : decode cX9_init 28 = .ok (.anewarray 16, 3) := by decide +kernel
theorem dX9_init_31 : decode cX9_init 31 = .ok (.putfield 23, 3) := by decide +kernel
theorem dX9_init_34 : decode cX9_init 34 = .ok (.aload_n 0, 1) := by decide +kernel
theorem dX9_init_35 : decode cX9_init 35 = .ok (.iconst 4, 1) := by decide +kernel
theorem dX9_init_36 : decode cX9_init 36 = .ok (.anewarray 27, 3) := by decide +kernel
theorem dX9_init_39 : decode cX9_init 39 = .ok (.putfield 29, 3) := by decide +kernel
theorem dX9_init_42 : decode cX9_init 42 = .ok (.aload_n 0, 1) := by decide +kernel
theorem dX9_init_43 : decode cX9_init 43 = .ok (.bipush 8, 2) := by decide +kernel
theorem dX9_init_45 : decode cX9_init 45 = .ok (.newarray .int, 2) := by decide +kernel
theorem dX9_init_47 : decode cX9_init 47 = .ok (.putfield 33, 3) := by decide +kernel
theorem dX9_init_50 : decode cX9_init 50 = .ok (.aload_n 0, 1) := by decide +kernel
theorem dX9_init_51 : decode cX9_init 51 = .ok (.new 37, 3) := by decide +kernel
theorem dX9_init_54 : decode cX9_init 54 = .ok (.dup, 1) := by decide +kernel
theorem dX9_init_55 : decode cX9_init 55 = .ok (.invokespecial 39, 3) := by decide +kernel
theorem dX9_init_58 : decode cX9_init 58 = .ok (.putfield 40, 3) := by decide +kernel
theorem dX9_init_61 : decode cX9_init 61 = .ok (.aload_n 0, 1) := by decide +kernel
theorem dX9_init_62 : decode cX9_init 62 = .ok (.new 44, 3) := by decide +kernel
theorem dX9_init_65 : decode cX9_init 65 = .ok (.dup, 1) := by decide +kernel
theorem dX9_init_66 : decode cX9_init 66 = .ok (.invokespecial 46, 3) := by decide +kernel
theorem dX9_init_69 : decode cX9_init 69 = .ok (.putfield 47, 3) := by decide +kernel
theorem dX9_init_72 : decode cX9_init 72 = .ok (.aload_n 0, 1) := by decide +kernel
theorem dX9_init_73 : decode cX9_init 73 = .ok (.bipush 60, 2) := by decide +kernel
theorem dX9_init_75 : decode cX9_init 75 = .ok (.newarray .int, 2) := by decide +kernel
theorem dX9_init_77 : decode cX9_init 77 = .ok (.putfield 51, 3) := by decide +kernel
theorem dX9_init_80 : decode cX9_init 80 = .ok (.iconst 0, 1) := by decide +kernel
theorem dX9_init_81 : decode cX9_init 81 = .ok (.istore_n 1, 1) := by decide +kernel
theorem dX9_init_82 : decode cX9_init 82 = .ok (.iload_n 1, 1) := by decide +kernel
theorem dX9_init_83 : decode cX9_init 83 = .ok (.iconst 2, 1) := by decide +kernel
theorem dX9_init_84 : decode cX9_init 84 = .ok (.if_icmp .ge 22, 3) := by decide +kernel
theorem dX9_init_87 : decode cX9_init 87 = .ok (.aload_n 0, 1) := by decide +kernel
theorem dX9_init_88 : decode cX9_init 88 = .ok (.getfield 23, 3) := by decide +kernel
theorem dX9_init_91 : decode cX9_init 91 = .ok (.iload_n 1, 1) := by decide +kernel
theorem dX9_init_92 : decode cX9_init 92 = .ok (.new 16, 3) := by decide +kernel
theorem dX9_init_95 : decode cX9_init 95 = .ok (.dup, 1) := by decide +kernel
theorem dX9_init_96 : decode cX9_init 96 = .ok (.invokespecial 18, 3) := by decide +kernel
theorem dX9_init_99 : decode cX9_init 99 = .ok (.aastore, 1) := by decide +kernel
theorem dX9_init_100 : decode cX9_init 100 = .ok (.iinc 1 1, 3) := by decide +kernel
theorem dX9_init_103 : decode cX9_init 103 = .ok (.goto (-21), 3) := by decide +kernel
theorem dX9_init_106 : decode cX9_init 106 = .ok (.iconst 0, 1) := by decide +kernel
theorem dX9_init_107 : decode cX9_init 107 = .ok (.istore_n 1, 1) := by decide +kernel
theorem dX9_init_108 : decode cX9_init 108 = .ok (.iload_n 1, 1) := by decide +kernel
theorem dX9_init_109 : decode cX9_init 109 = .ok (.iconst 4, 1) := by decide +kernel
theorem dX9_init_110 : decode cX9_init 110 = .ok (.if_icmp .ge 22, 3) := by decide +kernel
theorem dX9_init_113 : decode cX9_init 113 = .ok (.aload_n 0, 1) := by decide +kernel
theorem dX9_init_114 : decode cX9_init 114 = .ok (.getfield 29, 3) := by decide +kernel
theorem dX9_init_117 : decode cX9_init 117 = .ok (.iload_n 1, 1) := by decide +kernel
theorem dX9_init_118 : decode cX9_init 118 = .ok (.new 27, 3) := by decide +kernel
theorem dX9_init_121 : decode cX9_init 121 = .ok (.dup, 1) := by decide +kernel
theorem dX9_init_122 : decode cX9_init 122 = .ok (.invokespecial 54, 3) := by decide +kernel
theorem dX9_init_125 : decode cX9_init 125 = .ok (.aastore, 1) := by decide +kernel
theorem dX9_init_126 : decode cX9_init 126 = .ok (.iinc 1 1, 3) := by decide +kernel
theorem dX9_init_129 : decode cX9_init 129 = .ok (.goto (-21), 3) := by decide +kernel
theorem dX9_init_132 : decode cX9_init 132 = .ok (.return_, 1) := by decide +kernel
theorem dX9_feed_0 : decode cX9_feed 0 = .ok (.aload_n 0, 1) := by decide +kernel
theorem dX9_feed_1 : decode cX9_feed 1 = .ok (.getfield 10, 3) := by decide +kernel
theorem dX9_feed_4 : decode cX9_feed 4 = .ok (.getfield 55, 3) := by decide +kernel
theorem dX9_feed_7 : decode cX9_feed 7 = .ok (.bipush 20, 2) := by decide +kernel
theorem dX9_feed_9 : decode cX9_feed 9 = .ok (.iadd, 1) := by decide +kernel
theorem dX9_feed_10 : decode cX9_feed 10 = .ok (.sipush 400, 3) := by decide +kernel
theorem dX9_feed_13 : decode cX9_feed 13 = .ok (.if_icmp .le 10, 3) := by decide +kernel
theorem dX9_feed_16 : decode cX9_feed 16 = .ok (.aload_n 0, 1) := by decide +kernel
theorem dX9_feed_17 : decode cX9_feed 17 = .ok (.bipush (-5), 2) := by decide +kernel
theorem dX9_feed_19 : decode cX9_feed 19 = .ok (.invokevirtual 59, 3) := by decide +kernel
theorem dX9_feed_22 : decode cX9_feed 22 = .ok (.ireturn, 1) := by decide +kernel
theorem dX9_feed_23 : decode cX9_feed 23 = .ok (.aload_n 0, 1) := by decide +kernel
theorem dX9_feed_24 : decode cX9_feed 24 = .ok (.getfield 10, 3) := by decide +kernel
theorem dX9_feed_27 : decode cX9_feed 27 = .ok (.iload_n 1, 1) := by decide +kernel
theorem dX9_feed_28 : decode cX9_feed 28 = .ok (.invokevirtual 63, 3) := by decide +kernel
theorem dX9_feed_31 : decode cX9_feed 31 = .ok (.aload_n 0, 1) := by decide +kernel
theorem dX9_feed_32 : decode cX9_feed 32 = .ok (.getfield 10, 3) := by decide +kernel
theorem dX9_feed_35 : decode cX9_feed 35 = .ok (.iload_n 2, 1) := by decide +kernel
theorem dX9_feed_36 : decode cX9_feed 36 = .ok (.invokevirtual 63, 3) := by decide +kernel
theorem dX9_feed_39 : decode cX9_feed 39 = .ok (.aload_n 0, 1) := by decide +kernel
theorem dX9_feed_40 : decode cX9_feed 40 = .ok (.getfield 10, 3) := by decide +kernel
theorem dX9_feed_43 : decode cX9_feed 43 = .ok (.iload_n 3, 1) := by decide +kernel
theorem dX9_feed_44 : decode cX9_feed 44 = .ok (.invokevirtual 63, 3) := by decide +kernel
theorem dX9_feed_47 : decode cX9_feed 47 = .ok (.aload_n 0, 1) := by decide +kernel
theorem dX9_feed_48 : decode cX9_feed 48 = .ok (.getfield 10, 3) := by decide +kernel
theorem dX9_feed_51 : decode cX9_feed 51 = .ok (.iload 4, 2) := by decide +kernel
theorem dX9_feed_53 : decode cX9_feed 53 = .ok (.invokevirtual 63, 3) := by decide +kernel
theorem dX9_feed_56 : decode cX9_feed 56 = .ok (.aload_n 0, 1) := by decide +kernel
theorem dX9_feed_57 : decode cX9_feed 57 = .ok (.getfield 10, 3) := by decide +kernel
theorem dX9_feed_60 : decode cX9_feed 60 = .ok (.iload 5, 2) := by decide +kernel
theorem dX9_feed_62 : decode cX9_feed 62 = .ok (.invokevirtual 63, 3) := by decide +kernel
theorem dX9_feed_65 : decode cX9_feed 65 = .ok (.aload_n 0, 1) := by decide +kernel
theorem dX9_feed_66 : decode cX9_feed 66 = .ok (.getfield 10, 3) := by decide +kernel
theorem dX9_feed_69 : decode cX9_feed 69 = .ok (.getfield 55, 3) := by decide +kernel
theorem dX9_feed_72 : decode cX9_feed 72 = .ok (.ireturn, 1) := by decide +kernel
theorem dX9_text_0 : decode cX9_text 0 = .ok (.iload_n 1, 1) := by decide +kernel
theorem dX9_text_1 : decode cX9_text 1 = .ok (.iload_n 2, 1) := by decide +kernel
theorem dX9_text_2 : decode cX9_text 2 = .ok (.invokestatic 67, 3) := by decide +kernel
theorem dX9_text_5 : decode cX9_text 5 = .ok (.ifCond .ne 10, 3) := by decide +kernel
theorem dX9_text_8 : decode cX9_text 8 = .ok (.aload_n 0, 1) := by decide +kernel
theorem dX9_text_9 : decode cX9_text 9 = .ok (.bipush (-2), 2) := by decide +kernel
theorem dX9_text_11 : decode cX9_text 11 = .ok (.invokevirtual 59, 3) := by decide +kernel
theorem dX9_text_14 : decode cX9_text 14 = .ok (.ireturn, 1) := by decide +kernel
theorem dX9_text_15 : decode cX9_text 15 = .ok (.iload_n 3, 1) := by decide +kernel
theorem dX9_text_16 : decode cX9_text 16 = .ok (.ifCond .lt 14, 3) := by decide +kernel
theorem dX9_text_19 : decode cX9_text 19 = .ok (.iload_n 3, 1) := by decide +kernel
theorem dX9_text_20 : decode cX9_text 20 = .ok (.aload_n 0, 1) := by decide +kernel
theorem dX9_text_21 : decode cX9_text 21 = .ok (.getfield 10, 3) := by decide +kernel
theorem dX9_text_24 : decode cX9_text 24 = .ok (.getfield 55, 3) := by decide +kernel
theorem dX9_text_27 : decode cX9_text 27 = .ok (.if_icmp .le 10, 3) := by decide +kernel
theorem dX9_text_30 : decode cX9_text 30 = .ok (.aload_n 0, 1) := by decide +kernel
theorem dX9_text_31 : decode cX9_text 31 = .ok (.bipush (-3), 2) := by decide +kernel
theorem dX9_text_33 : decode cX9_text 33 = .ok (.invokevirtual 59, 3) := by decide +kernel
theorem dX9_text_36 : decode cX9_text 36 = .ok (.ireturn, 1) := by decide +kernel
theorem dX9_text_37 : decode cX9_text 37 = .ok (.aload_n 0, 1) := by decide +kernel
theorem dX9_text_38 : decode cX9_text 38 = .ok (.getfield 10, 3) := by decide +kernel
theorem dX9_text_41 : decode cX9_text 41 = .ok (.iload_n 3, 1) := by decide +kernel
theorem dX9_text_42 : decode cX9_text 42 = .ok (.invokevirtual 71, 3) := by decide +kernel
theorem dX9_text_45 : decode cX9_text 45 = .ok (.iconst 0, 1) := by decide +kernel
theorem dX9_text_46 : decode cX9_text 46 = .ok (.istore 4, 2) := by decide +kernel
theorem dX9_text_48 : decode cX9_text 48 = .ok (.iload_n 1, 1) := by decide +kernel
theorem dX9_text_49 : decode cX9_text 49 = .ok (.ifCond .ne 15, 3) := by decide +kernel
theorem dX9_text_52 : decode cX9_text 52 = .ok (.aload_n 0, 1) := by decide +kernel
theorem dX9_text_53 : decode cX9_text 53 = .ok (.getfield 10, 3) := by decide +kernel
theorem dX9_text_56 : decode cX9_text 56 = .ok (.invokevirtual 74, 3) := by decide +kernel
theorem dX9_text_59 : decode cX9_text 59 = .ok (.istore 4, 2) := by decide +kernel
theorem dX9_text_61 : decode cX9_text 61 = .ok (.goto 46, 3) := by decide +kernel
theorem dX9_text_64 : decode cX9_text 64 = .ok (.iload_n 1, 1) := by decide +kernel
theorem dX9_text_65 : decode cX9_text 65 = .ok (.iconst 1, 1) := by decide +kernel
theorem dX9_text_66 : decode cX9_text 66 = .ok (.if_icmp .ne 15, 3) := by decide +kernel
theorem dX9_text_69 : decode cX9_text 69 = .ok (.aload_n 0, 1) := by decide +kernel
theorem dX9_text_70 : decode cX9_text 70 = .ok (.getfield 10, 3) := by decide +kernel
theorem dX9_text_73 : decode cX9_text 73 = .ok (.invokevirtual 78, 3) := by decide +kernel
theorem dX9_text_76 : decode cX9_text 76 = .ok (.istore 4, 2) := by decide +kernel
theorem dX9_text_78 : decode cX9_text 78 = .ok (.goto 29, 3) := by decide +kernel
theorem dX9_text_81 : decode cX9_text 81 = .ok (.iload_n 1, 1) := by decide +kernel
theorem dX9_text_82 : decode cX9_text 82 = .ok (.iconst 2, 1) := by decide +kernel
theorem dX9_text_83 : decode cX9_text 83 = .ok (.if_icmp .ne 15, 3) := by decide +kernel
theorem dX9_text_86 : decode cX9_text 86 = .ok (.aload_n 0, 1) := by decide +kernel
theorem dX9_text_87 : decode cX9_text 87 = .ok (.getfield 10, 3) := by decide +kernel
theorem dX9_text_90 : decode cX9_text 90 = .ok (.invokevirtual 81, 3) := by decide +kernel
theorem dX9_text_93 : decode cX9_text 93 = .ok (.istore 4, 2) := by decide +kernel
theorem dX9_text_95 : decode cX9_text 95 = .ok (.goto 12, 3) := by decide +kernel
theorem dX9_text_98 : decode cX9_text 98 = .ok (.aload_n 0, 1) := by decide +kernel
theorem dX9_text_99 : decode cX9_text 99 = .ok (.getfield 10, 3) := by decide +kernel
theorem dX9_text_102 : decode cX9_text 102 = .ok (.invokevirtual 84, 3) := by decide +kernel
theorem dX9_text_105 : decode cX9_text 105 = .ok (.istore 4, 2) := by decide +kernel
theorem dX9_text_107 : decode cX9_text 107 = .ok (.aload_n 0, 1) := by decide +kernel
theorem dX9_text_108 : decode cX9_text 108 = .ok (.getfield 10, 3) := by decide +kernel
theorem dX9_text_111 : decode cX9_text 111 = .ok (.getfield 87, 3) := by decide +kernel
theorem dX9_text_114 : decode cX9_text 114 = .ok (.ifCond .eq 24, 3) := by decide +kernel
theorem dX9_text_117 : decode cX9_text 117 = .ok (.aload_n 0, 1) := by decide +kernel
theorem dX9_text_118 : decode cX9_text 118 = .ok (.getfield 33, 3) := by decide +kernel
theorem dX9_text_121 : decode cX9_text 121 = .ok (.iconst 1, 1) := by decide +kernel
theorem dX9_text_122 : decode cX9_text 122 = .ok (.dup2, 1) := by decide +kernel
theorem dX9_text_123 : decode cX9_text 123 = .ok (.iaload, 1) := by decide +kernel
theorem dX9_text_124 : decode cX9_text 124 = .ok (.iconst 1, 1) := by decide +kernel
theorem dX9_text_125 : decode cX9_text 125 = .ok (.iadd, 1) := by decide +kernel
theorem dX9_text_126 : decode cX9_text 126 = .ok (.iastore, 1) := by decide +kernel
theorem dX9_text_127 : decode cX9_text 127 = .ok (.bipush (-10), 2) := by decide +kernel
theorem dX9_text_129 : decode cX9_text 129 = .ok (.aload_n 0, 1) := by decide +kernel
theorem dX9_text_130 : decode cX9_text 130 = .ok (.getfield 10, 3) := by decide +kernel
theorem dX9_text_133 : decode cX9_text 133 = .ok (.getfield 87, 3) := by decide +kernel
theorem dX9_text_136 : decode cX9_text 136 = .ok (.isub, 1) := by decide +kernel
theorem dX9_text_137 : decode cX9_text 137 = .ok (.ireturn, 1) := by decide +kernel
theorem dX9_text_138 : decode cX9_text 138 = .ok (.aload_n 0, 1) := by decide +kernel
theorem dX9_text_139 : decode cX9_text 139 = .ok (.iload_n 1, 1) := by decide +kernel
theorem dX9_text_140 : decode cX9_text 140 = .ok (.iload_n 2, 1) := by decide +kernel
theorem dX9_text_141 : decode cX9_text 141 = .ok (.invokevirtual 90, 3) := by decide +kernel
theorem dX9_text_144 : decode cX9_text 144 = .ok (.iload 4, 2) := by decide +kernel
theorem dX9_text_146 : decode cX9_text 146 = .ok (.ireturn, 1) := by decide +kernel
theorem dX9_isTextPlace_0 : decode cX9_isTextPlace 0 = .ok (.iload_n 0, 1) := by decide +kernel
theorem dX9_isTextPlace_1 : decode cX9_isTextPlace 1 = .ok (.ifCond .ne 18, 3) := by decide +kernel
theorem dX9_isTextPlace_4 : decode cX9_isTextPlace 4 = .ok (.iload_n 1, 1) := by decide +kernel
theorem dX9_isTextPlace_5 : decode cX9_isTextPlace 5 = .ok (.ifCond .lt 12, 3) := by decide +kernel
theorem dX9_isTextPlace_8 : decode cX9_isTextPlace 8 = .ok (.iload_n 1, 1) := by decide +kernel
theorem dX9_isTextPlace_9 : decode cX9_isTextPlace 9 = .ok (.iconst 4, 1) := by decide +kernel
theorem dX9_isTextPlace_10 : decode cX9_isTextPlace 10 = .ok (.if_icmp .ge 7, 3) := by decide +kernel
theorem dX9_isTextPlace_13 : decode cX9_isTextPlace 13 = .ok (.iconst 1, 1) := by decide +kernel
theorem dX9_isTextPlace_14 : decode cX9_isTextPlace 14 = .ok (.goto 4, 3) := by decide +kernel
theorem dX9_isTextPlace_17 : decode cX9_isTextPlace 17 = .ok (.iconst 0, 1) := by decide +kernel
theorem dX9_isTextPlace_18 : decode cX9_isTextPlace 18 = .ok (.ireturn, 1) := by decide +kernel
theorem dX9_isTextPlace_19 : decode cX9_isTextPlace 19 = .ok (.iload_n 0, 1) := by decide +kernel
theorem dX9_isTextPlace_20 : decode cX9_isTextPlace 20 = .ok (.iconst 1, 1) := by decide +kernel
theorem dX9_isTextPlace_21 : decode cX9_isTextPlace 21 = .ok (.if_icmp .ne 18, 3) := by decide +kernel
theorem dX9_isTextPlace_24 : decode cX9_isTextPlace 24 = .ok (.iload_n 1, 1) := by decide +kernel
theorem dX9_isTextPlace_25 : decode cX9_isTextPlace 25 = .ok (.ifCond .lt 12, 3) := by decide +kernel
theorem dX9_isTextPlace_28 : decode cX9_isTextPlace 28 = .ok (.iload_n 1, 1) := by decide +kernel
theorem dX9_isTextPlace_29 : decode cX9_isTextPlace 29 = .ok (.iconst 4, 1) := by decide +kernel
theorem dX9_isTextPlace_30 : decode cX9_isTextPlace 30 = .ok (.if_icmp .ge 7, 3) := by decide +kernel
theorem dX9_isTextPlace_33 : decode cX9_isTextPlace 33 = .ok (.iconst 1, 1) := by decide +kernel
theorem dX9_isTextPlace_34 : decode cX9_isTextPlace 34 = .ok (.goto 4, 3) := by decide +kernel
theorem dX9_isTextPlace_37 : decode cX9_isTextPlace 37 = .ok (.iconst 0, 1) := by decide +kernel
theorem dX9_isTextPlace_38 : decode cX9_isTextPlace 38 = .ok (.ireturn, 1) := by decide +kernel
theorem dX9_isTextPlace_39 : decode cX9_isTextPlace 39 = .ok (.iload_n 0, 1) := by decide +kernel
theorem dX9_isTextPlace_40 : decode cX9_isTextPlace 40 = .ok (.iconst 2, 1) := by decide +kernel
theorem dX9_isTextPlace_41 : decode cX9_isTextPlace 41 = .ok (.if_icmp .eq 8, 3) := by decide +kernel
theorem dX9_isTextPlace_44 : decode cX9_isTextPlace 44 = .ok (.iload_n 0, 1) := by decide +kernel
theorem dX9_isTextPlace_45 : decode cX9_isTextPlace 45 = .ok (.iconst 3, 1) := by decide +kernel
theorem dX9_isTextPlace_46 : decode cX9_isTextPlace 46 = .ok (.if_icmp .ne 11, 3) := by decide +kernel
theorem dX9_isTextPlace_49 : decode cX9_isTextPlace 49 = .ok (.iload_n 1, 1) := by decide +kernel
theorem dX9_isTextPlace_50 : decode cX9_isTextPlace 50 = .ok (.ifCond .ne 7, 3) := by decide +kernel
theorem dX9_isTextPlace_53 : decode cX9_isTextPlace 53 = .ok (.iconst 1, 1) := by decide +kernel
theorem dX9_isTextPlace_54 : decode cX9_isTextPlace 54 = .ok (.goto 4, 3) := by decide +kernel
theorem dX9_isTextPlace_57 : decode cX9_isTextPlace 57 = .ok (.iconst 0, 1) := by decide +kernel
theorem dX9_isTextPlace_58 : decode cX9_isTextPlace 58 = .ok (.ireturn, 1) := by decide +kernel
theorem dX9_adoptText_0 : decode cX9_adoptText 0 = .ok (.iload_n 1, 1) := by decide +kernel
theorem dX9_adoptText_1 : decode cX9_adoptText 1 = .ok (.ifCond .ne 25, 3) := by decide +kernel
theorem dX9_adoptText_4 : decode cX9_adoptText 4 = .ok (.aload_n 0, 1) := by decide +kernel
theorem dX9_adoptText_5 : decode cX9_adoptText 5 = .ok (.getfield 19, 3) := by decide +kernel
theorem dX9_adoptText_8 : decode cX9_adoptText 8 = .ok (.getfield 94, 3) := by decide +kernel
theorem dX9_adoptText_11 : decode cX9_adoptText 11 = .ok (.iload_n 2, 1) := by decide +kernel
theorem dX9_adoptText_12 : decode cX9_adoptText 12 = .ok (.aaload, 1) := by decide +kernel
theorem dX9_adoptText_13 : decode cX9_adoptText 13 = .ok (.aload_n 0, 1) := by decide +kernel
theorem dX9_adoptText_14 : decode cX9_adoptText 14 = .ok (.getfield 10, 3) := by decide +kernel
theorem dX9_adoptText_17 : decode cX9_adoptText 17 = .ok (.getfield 98, 3) := by decide +kernel
theorem dX9_adoptText_20 : decode cX9_adoptText 20 = .ok (.invokevirtual 101, 3) := by decide +kernel
theorem dX9_adoptText_23 : decode cX9_adoptText 23 = .ok (.goto 72, 3) := by decide +kernel
theorem dX9_adoptText_26 : decode cX9_adoptText 26 = .ok (.iload_n 1, 1) := by decide +kernel
theorem dX9_adoptText_27 : decode cX9_adoptText 27 = .ok (.iconst 1, 1) := by decide +kernel
theorem dX9_adoptText_28 : decode cX9_adoptText 28 = .ok (.if_icmp .ne 25, 3) := by decide +kernel
theorem dX9_adoptText_31 : decode cX9_adoptText 31 = .ok (.aload_n 0, 1) := by decide +kernel
theorem dX9_adoptText_32 : decode cX9_adoptText 32 = .ok (.getfield 19, 3) := by decide +kernel
theorem dX9_adoptText_35 : decode cX9_adoptText 35 = .ok (.getfield 105, 3) := by decide +kernel
theorem dX9_adoptText_38 : decode cX9_adoptText 38 = .ok (.iload_n 2, 1) := by decide +kernel
theorem dX9_adoptText_39 : decode cX9_adoptText 39 = .ok (.aaload, 1) := by decide +kernel
theorem dX9_adoptText_40 : decode cX9_adoptText 40 = .ok (.aload_n 0, 1) := by decide +kernel
theorem dX9_adoptText_41 : decode cX9_adoptText 41 = .ok (.getfield 10, 3) := by decide +kernel
theorem dX9_adoptText_44 : decode cX9_adoptText 44 = .ok (.getfield 109, 3) := by decide +kernel
theorem dX9_adoptText_47 : decode cX9_adoptText 47 = .ok (.invokevirtual 112, 3) := by decide +kernel
theorem dX9_adoptText_50 : decode cX9_adoptText 50 = .ok (.goto 45, 3) := by decide +kernel
theorem dX9_adoptText_53 : decode cX9_adoptText 53 = .ok (.iload_n 1, 1) := by decide +kernel
theorem dX9_adoptText_54 : decode cX9_adoptText 54 = .ok (.iconst 2, 1) := by decide +kernel
theorem dX9_adoptText_55 : decode cX9_adoptText 55 = .ok (.if_icmp .ne 23, 3) := by decide +kernel
theorem dX9_adoptText_58 : decode cX9_adoptText 58 = .ok (.aload_n 0, 1) := by decide +kernel
theorem dX9_adoptText_59 : decode cX9_adoptText 59 = .ok (.getfield 19, 3) := by decide +kernel
theorem dX9_adoptText_62 : decode cX9_adoptText 62 = .ok (.getfield 117, 3) := by decide +kernel
theorem dX9_adoptText_65 : decode cX9_adoptText 65 = .ok (.aload_n 0, 1) := by decide +kernel
theorem dX9_adoptText_66 : decode cX9_adoptText 66 = .ok (.getfield 10, 3) := by decide +kernel
theorem dX9_adoptText_69 : decode cX9_adoptText 69 = .ok (.getfield 121, 3) := by decide +kernel
theorem dX9_adoptText_72 : decode cX9_adoptText 72 = .ok (.invokevirtual 122, 3) := by decide +kernel
theorem dX9_adoptText_75 : decode cX9_adoptText 75 = .ok (.goto 20, 3) := by decide +kernel
theorem dX9_adoptText_78 : decode cX9_adoptText 78 = .ok (.aload_n 0, 1) := by decide +kernel
theorem dX9_adoptText_79 : decode cX9_adoptText 79 = .ok (.getfield 19, 3) := by decide +kernel
theorem dX9_adoptText_82 : decode cX9_adoptText 82 = .ok (.getfield 127, 3) := by decide +kernel
theorem dX9_adoptText_85 : decode cX9_adoptText 85 = .ok (.aload_n 0, 1) := by decide +kernel
theorem dX9_adoptText_86 : decode cX9_adoptText 86 = .ok (.getfield 10, 3) := by decide +kernel
theorem dX9_adoptText_89 : decode cX9_adoptText 89 = .ok (.getfield 131, 3) := by decide +kernel
theorem dX9_adoptText_92 : decode cX9_adoptText 92 = .ok (.invokevirtual 132, 3) := by decide +kernel
theorem dX9_adoptText_95 : decode cX9_adoptText 95 = .ok (.return_, 1) := by decide +kernel
theorem dX9_fault_0 : decode cX9_fault 0 = .ok (.iload_n 1, 1) := by decide +kernel
theorem dX9_fault_1 : decode cX9_fault 1 = .ok (.ifCond .ne 11, 3) := by decide +kernel
theorem dX9_fault_4 : decode cX9_fault 4 = .ok (.aload_n 0, 1) := by decide +kernel
theorem dX9_fault_5 : decode cX9_fault 5 = .ok (.getfield 10, 3) := by decide +kernel
theorem dX9_fault_8 : decode cX9_fault 8 = .ok (.getfield 87, 3) := by decide +kernel
theorem dX9_fault_11 : decode cX9_fault 11 = .ok (.ireturn, 1) := by decide +kernel
theorem dX9_fault_12 : decode cX9_fault 12 = .ok (.iload_n 1, 1) := by decide +kernel
theorem dX9_fault_13 : decode cX9_fault 13 = .ok (.iconst 1, 1) := by decide +kernel
theorem dX9_fault_14 : decode cX9_fault 14 = .ok (.if_icmp .ne 13, 3) := by decide +kernel
theorem dX9_fault_17 : decode cX9_fault 17 = .ok (.aload_n 0, 1) := by decide +kernel
theorem dX9_fault_18 : decode cX9_fault 18 = .ok (.getfield 10, 3) := by decide +kernel
theorem dX9_fault_21 : decode cX9_fault 21 = .ok (.getfield 137, 3) := by decide +kernel
theorem dX9_fault_24 : decode cX9_fault 24 = .ok (.goto 4, 3) := by decide +kernel
theorem dX9_fault_27 : decode cX9_fault 27 = .ok (.iconst (-1), 1) := by decide +kernel
theorem dX9_fault_28 : decode cX9_fault 28 = .ok (.ireturn, 1) := by decide +kernel
theorem dX9_rod_0 : decode cX9_rod 0 = .ok (.aload_n 0, 1) := by decide +kernel
theorem dX9_rod_1 : decode cX9_rod 1 = .ok (.iload_n 1, 1) := by decide +kernel
theorem dX9_rod_2 : decode cX9_rod 2 = .ok (.invokevirtual 140, 3) := by decide +kernel
theorem dX9_rod_5 : decode cX9_rod 5 = .ok (.ifCond .eq 12, 3) := by decide +kernel
theorem dX9_rod_8 : decode cX9_rod 8 = .ok (.iload_n 2, 1) := by decide +kernel
theorem dX9_rod_9 : decode cX9_rod 9 = .ok (.ifCond .lt 8, 3) := by decide +kernel
theorem dX9_rod_12 : decode cX9_rod 12 = .ok (.iload_n 2, 1) := by decide +kernel
theorem dX9_rod_13 : decode cX9_rod 13 = .ok (.iconst 1, 1) := by decide +kernel
theorem dX9_rod_14 : decode cX9_rod 14 = .ok (.if_icmp .le 10, 3) := by decide +kernel
theorem dX9_rod_17 : decode cX9_rod 17 = .ok (.aload_n 0, 1) := by decide +kernel
theorem dX9_rod_18 : decode cX9_rod 18 = .ok (.bipush (-2), 2) := by decide +kernel
theorem dX9_rod_20 : decode cX9_rod 20 = .ok (.invokevirtual 59, 3) := by decide +kernel
theorem dX9_rod_23 : decode cX9_rod 23 = .ok (.ireturn, 1) := by decide +kernel
theorem dX9_rod_24 : decode cX9_rod 24 = .ok (.iload_n 2, 1) := by decide +kernel
theorem dX9_rod_25 : decode cX9_rod 25 = .ok (.ifCond .ne 18, 3) := by decide +kernel
theorem dX9_rod_28 : decode cX9_rod 28 = .ok (.aload_n 0, 1) := by decide +kernel
theorem dX9_rod_29 : decode cX9_rod 29 = .ok (.getfield 19, 3) := by decide +kernel
theorem dX9_rod_32 : decode cX9_rod 32 = .ok (.getfield 94, 3) := by decide +kernel
theorem dX9_rod_35 : decode cX9_rod 35 = .ok (.iload_n 1, 1) := by decide +kernel
theorem dX9_rod_36 : decode cX9_rod 36 = .ok (.aaload, 1) := by decide +kernel
theorem dX9_rod_37 : decode cX9_rod 37 = .ok (.getfield 144, 3) := by decide +kernel
theorem dX9_rod_40 : decode cX9_rod 40 = .ok (.goto 15, 3) := by decide +kernel
theorem dX9_rod_43 : decode cX9_rod 43 = .ok (.aload_n 0, 1) := by decide +kernel
theorem dX9_rod_44 : decode cX9_rod 44 = .ok (.getfield 19, 3) := by decide +kernel
theorem dX9_rod_47 : decode cX9_rod 47 = .ok (.getfield 94, 3) := by decide +kernel
theorem dX9_rod_50 : decode cX9_rod 50 = .ok (.iload_n 1, 1) := by decide +kernel
theorem dX9_rod_51 : decode cX9_rod 51 = .ok (.aaload, 1) := by decide +kernel
theorem dX9_rod_52 : decode cX9_rod 52 = .ok (.getfield 147, 3) := by decide +kernel
theorem dX9_rod_55 : decode cX9_rod 55 = .ok (.ireturn, 1) := by decide +kernel
theorem dX9_cell_0 : decode cX9_cell 0 = .ok (.aload_n 0, 1) := by decide +kernel
theorem dX9_cell_1 : decode cX9_cell 1 = .ok (.iload_n 1, 1) := by decide +kernel
theorem dX9_cell_2 : decode cX9_cell 2 = .ok (.iload_n 2, 1) := by decide +kernel
theorem dX9_cell_3 : decode cX9_cell 3 = .ok (.invokevirtual 150, 3) := by decide +kernel
theorem dX9_cell_6 : decode cX9_cell 6 = .ok (.ifCond .eq 12, 3) := by decide +kernel
theorem dX9_cell_9 : decode cX9_cell 9 = .ok (.iload_n 3, 1) := by decide +kernel
theorem dX9_cell_10 : decode cX9_cell 10 = .ok (.ifCond .lt 8, 3) := by decide +kernel
theorem dX9_cell_13 : decode cX9_cell 13 = .ok (.iload_n 3, 1) := by decide +kernel
theorem dX9_cell_14 : decode cX9_cell 14 = .ok (.iconst 5, 1) := by decide +kernel
theorem dX9_cell_15 : decode cX9_cell 15 = .ok (.if_icmp .lt 10, 3) := by decide +kernel
theorem dX9_cell_18 : decode cX9_cell 18 = .ok (.aload_n 0, 1) := by decide +kernel
theorem dX9_cell_19 : decode cX9_cell 19 = .ok (.bipush (-2), 2) := by decide +kernel
theorem dX9_cell_21 : decode cX9_cell 21 = .ok (.invokevirtual 59, 3) := by decide +kernel
theorem dX9_cell_24 : decode cX9_cell 24 = .ok (.ireturn, 1) := by decide +kernel
theorem dX9_cell_25 : decode cX9_cell 25 = .ok (.aload_n 0, 1) := by decide +kernel
theorem dX9_cell_26 : decode cX9_cell 26 = .ok (.getfield 19, 3) := by decide +kernel
theorem dX9_cell_29 : decode cX9_cell 29 = .ok (.getfield 94, 3) := by decide +kernel
theorem dX9_cell_32 : decode cX9_cell 32 = .ok (.iload_n 1, 1) := by decide +kernel
theorem dX9_cell_33 : decode cX9_cell 33 = .ok (.aaload, 1) := by decide +kernel
theorem dX9_cell_34 : decode cX9_cell 34 = .ok (.astore 4, 2) := by decide +kernel
theorem dX9_cell_36 : decode cX9_cell 36 = .ok (.iload_n 3, 1) := by decide +kernel
theorem dX9_cell_37 : decode cX9_cell 37 = .ok (.tableswitch 63 0 3 #[31, 39, 47, 55], 31) := by decide +kernel
theorem dX9_cell_68 : decode cX9_cell 68 = .ok (.aload 4, 2) := by decide +kernel
theorem dX9_cell_70 : decode cX9_cell 70 = .ok (.getfield 153, 3) := by decide +kernel
theorem dX9_cell_73 : decode cX9_cell 73 = .ok (.iload_n 2, 1) := by decide +kernel
theorem dX9_cell_74 : decode cX9_cell 74 = .ok (.iaload, 1) := by decide +kernel
theorem dX9_cell_75 : decode cX9_cell 75 = .ok (.ireturn, 1) := by decide +kernel
theorem dX9_cell_76 : decode cX9_cell 76 = .ok (.aload 4, 2) := by decide +kernel
theorem dX9_cell_78 : decode cX9_cell 78 = .ok (.getfield 156, 3) := by decide +kernel
theorem dX9_cell_81 : decode cX9_cell 81 = .ok (.iload_n 2, 1) := by decide +kernel
theorem dX9_cell_82 : decode cX9_cell 82 = .ok (.iaload, 1) := by decide +kernel
theorem dX9_cell_83 : decode cX9_cell 83 = .ok (.ireturn, 1) := by decide +kernel
theorem dX9_cell_84 : decode cX9_cell 84 = .ok (.aload 4, 2) := by decide +kernel
theorem dX9_cell_86 : decode cX9_cell 86 = .ok (.getfield 159, 3) := by decide +kernel
theorem dX9_cell_89 : decode cX9_cell 89 = .ok (.iload_n 2, 1) := by decide +kernel
theorem dX9_cell_90 : decode cX9_cell 90 = .ok (.iaload, 1) := by decide +kernel
theorem dX9_cell_91 : decode cX9_cell 91 = .ok (.ireturn, 1) := by decide +kernel
theorem dX9_cell_92 : decode cX9_cell 92 = .ok (.aload 4, 2) := by decide +kernel
theorem dX9_cell_94 : decode cX9_cell 94 = .ok (.getfield 162, 3) := by decide +kernel
theorem dX9_cell_97 : decode cX9_cell 97 = .ok (.iload_n 2, 1) := by decide +kernel
theorem dX9_cell_98 : decode cX9_cell 98 = .ok (.iaload, 1) := by decide +kernel
theorem dX9_cell_99 : decode cX9_cell 99 = .ok (.ireturn, 1) := by decide +kernel
theorem dX9_cell_100 : decode cX9_cell 100 = .ok (.aload 4, 2) := by decide +kernel
theorem dX9_cell_102 : decode cX9_cell 102 = .ok (.getfield 165, 3) := by decide +kernel
theorem dX9_cell_105 : decode cX9_cell 105 = .ok (.iload_n 2, 1) := by decide +kernel
theorem dX9_cell_106 : decode cX9_cell 106 = .ok (.iaload, 1) := by decide +kernel
theorem dX9_cell_107 : decode cX9_cell 107 = .ok (.ireturn, 1) := by decide +kernel
theorem dX9_strength_0 : decode cX9_strength 0 = .ok (.aload_n 0, 1) := by decide +kernel
theorem dX9_strength_1 : decode cX9_strength 1 = .ok (.iload_n 1, 1) := by decide +kernel
theorem dX9_strength_2 : decode cX9_strength 2 = .ok (.iload_n 2, 1) := by decide +kernel
theorem dX9_strength_3 : decode cX9_strength 3 = .ok (.invokevirtual 150, 3) := by decide +kernel
theorem dX9_strength_6 : decode cX9_strength 6 = .ok (.ifCond .ne 10, 3) := by decide +kernel
theorem dX9_strength_9 : decode cX9_strength 9 = .ok (.aload_n 0, 1) := by decide +kernel
theorem dX9_strength_10 : decode cX9_strength 10 = .ok (.bipush (-2), 2) := by decide +kernel
theorem dX9_strength_12 : decode cX9_strength 12 = .ok (.invokevirtual 59, 3) := by decide +kernel
theorem dX9_strength_15 : decode cX9_strength 15 = .ok (.ireturn, 1) := by decide +kernel
theorem dX9_strength_16 : decode cX9_strength 16 = .ok (.aload_n 0, 1) := by decide +kernel
theorem dX9_strength_17 : decode cX9_strength 17 = .ok (.getfield 19, 3) := by decide +kernel
theorem dX9_strength_20 : decode cX9_strength 20 = .ok (.getfield 94, 3) := by decide +kernel
theorem dX9_strength_23 : decode cX9_strength 23 = .ok (.iload_n 1, 1) := by decide +kernel
theorem dX9_strength_24 : decode cX9_strength 24 = .ok (.aaload, 1) := by decide +kernel
theorem dX9_strength_25 : decode cX9_strength 25 = .ok (.iload_n 3, 1) := by decide +kernel
theorem dX9_strength_26 : decode cX9_strength 26 = .ok (.aload_n 0, 1) := by decide +kernel
theorem dX9_strength_27 : decode cX9_strength 27 = .ok (.getfield 51, 3) := by decide +kernel
theorem dX9_strength_30 : decode cX9_strength 30 = .ok (.invokevirtual 168, 3) := by decide +kernel
theorem dX9_strength_33 : decode cX9_strength 33 = .ok (.aload_n 0, 1) := by decide +kernel
theorem dX9_strength_34 : decode cX9_strength 34 = .ok (.getfield 51, 3) := by decide +kernel
theorem dX9_strength_37 : decode cX9_strength 37 = .ok (.iload_n 2, 1) := by decide +kernel
theorem dX9_strength_38 : decode cX9_strength 38 = .ok (.iaload, 1) := by decide +kernel
theorem dX9_strength_39 : decode cX9_strength 39 = .ok (.ireturn, 1) := by decide +kernel
theorem dX9_bent_0 : decode cX9_bent 0 = .ok (.iload_n 1, 1) := by decide +kernel
theorem dX9_bent_1 : decode cX9_bent 1 = .ok (.invokestatic 172, 3) := by decide +kernel
theorem dX9_bent_4 : decode cX9_bent 4 = .ok (.ifCond .ne 10, 3) := by decide +kernel
theorem dX9_bent_7 : decode cX9_bent 7 = .ok (.aload_n 0, 1) := by decide +kernel
theorem dX9_bent_8 : decode cX9_bent 8 = .ok (.bipush (-2), 2) := by decide +kernel
theorem dX9_bent_10 : decode cX9_bent 10 = .ok (.invokevirtual 59, 3) := by decide +kernel
theorem dX9_bent_13 : decode cX9_bent 13 = .ok (.ireturn, 1) := by decide +kernel
theorem dX9_bent_14 : decode cX9_bent 14 = .ok (.iload_n 2, 1) := by decide +kernel
theorem dX9_bent_15 : decode cX9_bent 15 = .ok (.ifCond .lt 10, 3) := by decide +kernel
theorem dX9_bent_18 : decode cX9_bent 18 = .ok (.iload_n 2, 1) := by decide +kernel
theorem dX9_bent_19 : decode cX9_bent 19 = .ok (.sipush 4000, 3) := by decide +kernel
theorem dX9_bent_22 : decode cX9_bent 22 = .ok (.if_icmp .lt 10, 3) := by decide +kernel
theorem dX9_bent_25 : decode cX9_bent 25 = .ok (.aload_n 0, 1) := by decide +kernel
theorem dX9_bent_26 : decode cX9_bent 26 = .ok (.bipush (-3), 2) := by decide +kernel
theorem dX9_bent_28 : decode cX9_bent 28 = .ok (.invokevirtual 59, 3) := by decide +kernel
theorem dX9_bent_31 : decode cX9_bent 31 = .ok (.ireturn, 1) := by decide +kernel
theorem dX9_bent_32 : decode cX9_bent 32 = .ok (.iload_n 3, 1) := by decide +kernel
theorem dX9_bent_33 : decode cX9_bent 33 = .ok (.ifCond .eq 22, 3) := by decide +kernel
theorem dX9_bent_36 : decode cX9_bent 36 = .ok (.aload_n 0, 1) := by decide +kernel
theorem dX9_bent_37 : decode cX9_bent 37 = .ok (.getfield 19, 3) := by decide +kernel
theorem dX9_bent_40 : decode cX9_bent 40 = .ok (.getfield 105, 3) := by decide +kernel
theorem dX9_bent_43 : decode cX9_bent 43 = .ok (.iload_n 1, 1) := by decide +kernel
theorem dX9_bent_44 : decode cX9_bent 44 = .ok (.aaload, 1) := by decide +kernel
theorem dX9_bent_45 : decode cX9_bent 45 = .ok (.iload_n 2, 1) := by decide +kernel
theorem dX9_bent_46 : decode cX9_bent 46 = .ok (.iconst 1, 1) := by decide +kernel
theorem dX9_bent_47 : decode cX9_bent 47 = .ok (.iadd, 1) := by decide +kernel
theorem dX9_bent_48 : decode cX9_bent 48 = .ok (.iconst 1, 1) := by decide +kernel
theorem dX9_bent_49 : decode cX9_bent 49 = .ok (.invokevirtual 175, 3) := by decide +kernel
theorem dX9_bent_52 : decode cX9_bent 52 = .ok (.goto 19, 3) := by decide +kernel
theorem dX9_bent_55 : decode cX9_bent 55 = .ok (.aload_n 0, 1) := by decide +kernel
theorem dX9_bent_56 : decode cX9_bent 56 = .ok (.getfield 19, 3) := by decide +kernel
theorem dX9_bent_59 : decode cX9_bent 59 = .ok (.getfield 105, 3) := by decide +kernel
theorem dX9_bent_62 : decode cX9_bent 62 = .ok (.iload_n 1, 1) := by decide +kernel
theorem dX9_bent_63 : decode cX9_bent 63 = .ok (.aaload, 1) := by decide +kernel
theorem dX9_bent_64 : decode cX9_bent 64 = .ok (.iload_n 2, 1) := by decide +kernel
theorem dX9_bent_65 : decode cX9_bent 65 = .ok (.iconst 1, 1) := by decide +kernel
theorem dX9_bent_66 : decode cX9_bent 66 = .ok (.iadd, 1) := by decide +kernel
theorem dX9_bent_67 : decode cX9_bent 67 = .ok (.iconst 1, 1) := by decide +kernel
theorem dX9_bent_68 : decode cX9_bent 68 = .ok (.invokevirtual 179, 3) := by decide +kernel
theorem dX9_bent_71 : decode cX9_bent 71 = .ok (.ireturn, 1) := by decide +kernel
theorem dX9_go_0 : decode cX9_go 0 = .ok (.aload_n 0, 1) := by decide +kernel
theorem dX9_go_1 : decode cX9_go 1 = .ok (.iload_n 1, 1) := by decide +kernel
theorem dX9_go_2 : decode cX9_go 2 = .ok (.invokevirtual 140, 3) := by decide +kernel
theorem dX9_go_5 : decode cX9_go 5 = .ok (.ifCond .eq 10, 3) := by decide +kernel
theorem dX9_go_8 : decode cX9_go 8 = .ok (.iload_n 2, 1) := by decide +kernel
theorem dX9_go_9 : decode cX9_go 9 = .ok (.invokestatic 172, 3) := by decide +kernel
theorem dX9_go_12 : decode cX9_go 12 = .ok (.ifCond .ne 10, 3) := by decide +kernel
theorem dX9_go_15 : decode cX9_go 15 = .ok (.aload_n 0, 1) := by decide +kernel
theorem dX9_go_16 : decode cX9_go 16 = .ok (.bipush (-2), 2) := by decide +kernel
theorem dX9_go_18 : decode cX9_go 18 = .ok (.invokevirtual 59, 3) := by decide +kernel
theorem dX9_go_21 : decode cX9_go 21 = .ok (.ireturn, 1) := by decide +kernel
theorem dX9_go_22 : decode cX9_go 22 = .ok (.aload_n 0, 1) := by decide +kernel
theorem dX9_go_23 : decode cX9_go 23 = .ok (.getfield 40, 3) := by decide +kernel
theorem dX9_go_26 : decode cX9_go 26 = .ok (.aload_n 0, 1) := by decide +kernel
theorem dX9_go_27 : decode cX9_go 27 = .ok (.getfield 19, 3) := by decide +kernel
theorem dX9_go_30 : decode cX9_go 30 = .ok (.getfield 94, 3) := by decide +kernel
theorem dX9_go_33 : decode cX9_go 33 = .ok (.iload_n 1, 1) := by decide +kernel
theorem dX9_go_34 : decode cX9_go 34 = .ok (.aaload, 1) := by decide +kernel
theorem dX9_go_35 : decode cX9_go 35 = .ok (.aload_n 0, 1) := by decide +kernel
theorem dX9_go_36 : decode cX9_go 36 = .ok (.getfield 19, 3) := by decide +kernel
theorem dX9_go_39 : decode cX9_go 39 = .ok (.getfield 105, 3) := by decide +kernel
theorem dX9_go_42 : decode cX9_go 42 = .ok (.iload_n 2, 1) := by decide +kernel
theorem dX9_go_43 : decode cX9_go 43 = .ok (.aaload, 1) := by decide +kernel
theorem dX9_go_44 : decode cX9_go 44 = .ok (.aload_n 0, 1) := by decide +kernel
theorem dX9_go_45 : decode cX9_go 45 = .ok (.getfield 19, 3) := by decide +kernel
theorem dX9_go_48 : decode cX9_go 48 = .ok (.getfield 117, 3) := by decide +kernel
theorem dX9_go_51 : decode cX9_go 51 = .ok (.iload_n 3, 1) := by decide +kernel
theorem dX9_go_52 : decode cX9_go 52 = .ok (.invokevirtual 182, 3) := by decide +kernel
theorem dX9_go_55 : decode cX9_go 55 = .ok (.istore 4, 2) := by decide +kernel
theorem dX9_go_57 : decode cX9_go 57 = .ok (.aload_n 0, 1) := by decide +kernel
theorem dX9_go_58 : decode cX9_go 58 = .ok (.getfield 19, 3) := by decide +kernel
theorem dX9_go_61 : decode cX9_go 61 = .ok (.getfield 186, 3) := by decide +kernel
theorem dX9_go_64 : decode cX9_go 64 = .ok (.aload_n 0, 1) := by decide +kernel
theorem dX9_go_65 : decode cX9_go 65 = .ok (.getfield 40, 3) := by decide +kernel
theorem dX9_go_68 : decode cX9_go 68 = .ok (.getfield 190, 3) := by decide +kernel
theorem dX9_go_71 : decode cX9_go 71 = .ok (.invokevirtual 193, 3) := by decide +kernel
theorem dX9_go_74 : decode cX9_go 74 = .ok (.aload_n 0, 1) := by decide +kernel
theorem dX9_go_75 : decode cX9_go 75 = .ok (.getfield 19, 3) := by decide +kernel
theorem dX9_go_78 : decode cX9_go 78 = .ok (.iconst 1, 1) := by decide +kernel
theorem dX9_go_79 : decode cX9_go 79 = .ok (.putfield 198, 3) := by decide +kernel
theorem dX9_go_82 : decode cX9_go 82 = .ok (.iload 4, 2) := by decide +kernel
theorem dX9_go_84 : decode cX9_go 84 = .ok (.ireturn, 1) := by decide +kernel
theorem dX9_broke_0 : decode cX9_broke 0 = .ok (.iload_n 1, 1) := by decide +kernel
theorem dX9_broke_1 : decode cX9_broke 1 = .ok (.ifCond .lt 12, 3) := by decide +kernel
theorem dX9_broke_4 : decode cX9_broke 4 = .ok (.iload_n 2, 1) := by decide +kernel
theorem dX9_broke_5 : decode cX9_broke 5 = .ok (.ifCond .lt 8, 3) := by decide +kernel
theorem dX9_broke_8 : decode cX9_broke 8 = .ok (.iload_n 2, 1) := by decide +kernel
theorem dX9_broke_9 : decode cX9_broke 9 = .ok (.iconst 4, 1) := by decide +kernel
theorem dX9_broke_10 : decode cX9_broke 10 = .ok (.if_icmp .lt 10, 3) := by decide +kernel
theorem dX9_broke_13 : decode cX9_broke 13 = .ok (.aload_n 0, 1) := by decide +kernel
theorem dX9_broke_14 : decode cX9_broke 14 = .ok (.bipush (-2), 2) := by decide +kernel
theorem dX9_broke_16 : decode cX9_broke 16 = .ok (.invokevirtual 59, 3) := by decide +kernel
theorem dX9_broke_19 : decode cX9_broke 19 = .ok (.ireturn, 1) := by decide +kernel
theorem dX9_broke_20 : decode cX9_broke 20 = .ok (.aload_n 0, 1) := by decide +kernel
theorem dX9_broke_21 : decode cX9_broke 21 = .ok (.getfield 19, 3) := by decide +kernel
theorem dX9_broke_24 : decode cX9_broke 24 = .ok (.getfield 198, 3) := by decide +kernel
theorem dX9_broke_27 : decode cX9_broke 27 = .ok (.ifCond .ne 10, 3) := by decide +kernel
theorem dX9_broke_30 : decode cX9_broke 30 = .ok (.aload_n 0, 1) := by decide +kernel
theorem dX9_broke_31 : decode cX9_broke 31 = .ok (.bipush (-5), 2) := by decide +kernel
theorem dX9_broke_33 : decode cX9_broke 33 = .ok (.invokevirtual 59, 3) := by decide +kernel
theorem dX9_broke_36 : decode cX9_broke 36 = .ok (.ireturn, 1) := by decide +kernel
theorem dX9_broke_37 : decode cX9_broke 37 = .ok (.iload_n 1, 1) := by decide +kernel
theorem dX9_broke_38 : decode cX9_broke 38 = .ok (.aload_n 0, 1) := by decide +kernel
theorem dX9_broke_39 : decode cX9_broke 39 = .ok (.getfield 19, 3) := by decide +kernel
theorem dX9_broke_42 : decode cX9_broke 42 = .ok (.getfield 186, 3) := by decide +kernel
theorem dX9_broke_45 : decode cX9_broke 45 = .ok (.getfield 202, 3) := by decide +kernel
theorem dX9_broke_48 : decode cX9_broke 48 = .ok (.iconst 0, 1) := by decide +kernel
theorem dX9_broke_49 : decode cX9_broke 49 = .ok (.iaload, 1) := by decide +kernel
theorem dX9_broke_50 : decode cX9_broke 50 = .ok (.if_icmp .lt 10, 3) := by decide +kernel
theorem dX9_broke_53 : decode cX9_broke 53 = .ok (.aload_n 0, 1) := by decide +kernel
theorem dX9_broke_54 : decode cX9_broke 54 = .ok (.bipush (-2), 2) := by decide +kernel
theorem dX9_broke_56 : decode cX9_broke 56 = .ok (.invokevirtual 59, 3) := by decide +kernel
theorem dX9_broke_59 : decode cX9_broke 59 = .ok (.ireturn, 1) := by decide +kernel
theorem dX9_broke_60 : decode cX9_broke 60 = .ok (.aload_n 0, 1) := by decide +kernel
theorem dX9_broke_61 : decode cX9_broke 61 = .ok (.getfield 19, 3) := by decide +kernel
theorem dX9_broke_64 : decode cX9_broke 64 = .ok (.getfield 186, 3) := by decide +kernel
theorem dX9_broke_67 : decode cX9_broke 67 = .ok (.getfield 205, 3) := by decide +kernel
theorem dX9_broke_70 : decode cX9_broke 70 = .ok (.iload_n 2, 1) := by decide +kernel
theorem dX9_broke_71 : decode cX9_broke 71 = .ok (.bipush 60, 2) := by decide +kernel
theorem dX9_broke_73 : decode cX9_broke 73 = .ok (.imul, 1) := by decide +kernel
theorem dX9_broke_74 : decode cX9_broke 74 = .ok (.iload_n 1, 1) := by decide +kernel
theorem dX9_broke_75 : decode cX9_broke 75 = .ok (.iadd, 1) := by decide +kernel
theorem dX9_broke_76 : decode cX9_broke 76 = .ok (.iaload, 1) := by decide +kernel
theorem dX9_broke_77 : decode cX9_broke 77 = .ok (.ireturn, 1) := by decide +kernel
theorem dX9_piece_0 : decode cX9_piece 0 = .ok (.aload_n 0, 1) := by decide +kernel
theorem dX9_piece_1 : decode cX9_piece 1 = .ok (.iload_n 1, 1) := by decide +kernel
theorem dX9_piece_2 : decode cX9_piece 2 = .ok (.invokevirtual 208, 3) := by decide +kernel
theorem dX9_piece_5 : decode cX9_piece 5 = .ok (.istore_n 2, 1) := by decide +kernel
theorem dX9_piece_6 : decode cX9_piece 6 = .ok (.iload_n 2, 1) := by decide +kernel
theorem dX9_piece_7 : decode cX9_piece 7 = .ok (.ifCond .eq 11, 3) := by decide +kernel
theorem dX9_piece_10 : decode cX9_piece 10 = .ok (.aload_n 0, 1) := by decide +kernel
theorem dX9_piece_11 : decode cX9_piece 11 = .ok (.iload_n 2, 1) := by decide +kernel
theorem dX9_piece_12 : decode cX9_piece 12 = .ok (.invokevirtual 59, 3) := by decide +kernel
theorem dX9_piece_15 : decode cX9_piece 15 = .ok (.goto 15, 3) := by decide +kernel
theorem dX9_piece_18 : decode cX9_piece 18 = .ok (.aload_n 0, 1) := by decide +kernel
theorem dX9_piece_19 : decode cX9_piece 19 = .ok (.getfield 19, 3) := by decide +kernel
theorem dX9_piece_22 : decode cX9_piece 22 = .ok (.getfield 186, 3) := by decide +kernel
theorem dX9_piece_25 : decode cX9_piece 25 = .ok (.getfield 211, 3) := by decide +kernel
theorem dX9_piece_28 : decode cX9_piece 28 = .ok (.iload_n 1, 1) := by decide +kernel
theorem dX9_piece_29 : decode cX9_piece 29 = .ok (.iaload, 1) := by decide +kernel
theorem dX9_piece_30 : decode cX9_piece 30 = .ok (.ireturn, 1) := by decide +kernel
theorem dX9_wave_0 : decode cX9_wave 0 = .ok (.iload_n 1, 1) := by decide +kernel
theorem dX9_wave_1 : decode cX9_wave 1 = .ok (.ifCond .lt 13, 3) := by decide +kernel
theorem dX9_wave_4 : decode cX9_wave 4 = .ok (.iload_n 2, 1) := by decide +kernel
theorem dX9_wave_5 : decode cX9_wave 5 = .ok (.ifCond .lt 9, 3) := by decide +kernel
theorem dX9_wave_8 : decode cX9_wave 8 = .ok (.iload_n 2, 1) := by decide +kernel
theorem dX9_wave_9 : decode cX9_wave 9 = .ok (.bipush 6, 2) := by decide +kernel
theorem dX9_wave_11 : decode cX9_wave 11 = .ok (.if_icmp .lt 10, 3) := by decide +kernel
theorem dX9_wave_14 : decode cX9_wave 14 = .ok (.aload_n 0, 1) := by decide +kernel
theorem dX9_wave_15 : decode cX9_wave 15 = .ok (.bipush (-2), 2) := by decide +kernel
theorem dX9_wave_17 : decode cX9_wave 17 = .ok (.invokevirtual 59, 3) := by decide +kernel
theorem dX9_wave_20 : decode cX9_wave 20 = .ok (.ireturn, 1) := by decide +kernel
theorem dX9_wave_21 : decode cX9_wave 21 = .ok (.aload_n 0, 1) := by decide +kernel
theorem dX9_wave_22 : decode cX9_wave 22 = .ok (.getfield 19, 3) := by decide +kernel
theorem dX9_wave_25 : decode cX9_wave 25 = .ok (.getfield 198, 3) := by decide +kernel
theorem dX9_wave_28 : decode cX9_wave 28 = .ok (.ifCond .ne 10, 3) := by decide +kernel
theorem dX9_wave_31 : decode cX9_wave 31 = .ok (.aload_n 0, 1) := by decide +kernel
theorem dX9_wave_32 : decode cX9_wave 32 = .ok (.bipush (-5), 2) := by decide +kernel
theorem dX9_wave_34 : decode cX9_wave 34 = .ok (.invokevirtual 59, 3) := by decide +kernel
theorem dX9_wave_37 : decode cX9_wave 37 = .ok (.ireturn, 1) := by decide +kernel
theorem dX9_wave_38 : decode cX9_wave 38 = .ok (.iload_n 1, 1) := by decide +kernel
theorem dX9_wave_39 : decode cX9_wave 39 = .ok (.aload_n 0, 1) := by decide +kernel
theorem dX9_wave_40 : decode cX9_wave 40 = .ok (.getfield 19, 3) := by decide +kernel
theorem dX9_wave_43 : decode cX9_wave 43 = .ok (.getfield 186, 3) := by decide +kernel
theorem dX9_wave_46 : decode cX9_wave 46 = .ok (.getfield 202, 3) := by decide +kernel
theorem dX9_wave_49 : decode cX9_wave 49 = .ok (.iconst 2, 1) := by decide +kernel
theorem dX9_wave_50 : decode cX9_wave 50 = .ok (.iaload, 1) := by decide +kernel
theorem dX9_wave_51 : decode cX9_wave 51 = .ok (.if_icmp .lt 10, 3) := by decide +kernel
theorem dX9_wave_54 : decode cX9_wave 54 = .ok (.aload_n 0, 1) := by decide +kernel
theorem dX9_wave_55 : decode cX9_wave 55 = .ok (.bipush (-2), 2) := by decide +kernel
theorem dX9_wave_57 : decode cX9_wave 57 = .ok (.invokevirtual 59, 3) := by decide +kernel
theorem dX9_wave_60 : decode cX9_wave 60 = .ok (.ireturn, 1) := by decide +kernel
theorem dX9_wave_61 : decode cX9_wave 61 = .ok (.aload_n 0, 1) := by decide +kernel
theorem dX9_wave_62 : decode cX9_wave 62 = .ok (.getfield 19, 3) := by decide +kernel
theorem dX9_wave_65 : decode cX9_wave 65 = .ok (.getfield 186, 3) := by decide +kernel
theorem dX9_wave_68 : decode cX9_wave 68 = .ok (.getfield 214, 3) := by decide +kernel
theorem dX9_wave_71 : decode cX9_wave 71 = .ok (.iload_n 2, 1) := by decide +kernel
theorem dX9_wave_72 : decode cX9_wave 72 = .ok (.sipush 200, 3) := by decide +kernel
theorem dX9_wave_75 : decode cX9_wave 75 = .ok (.imul, 1) := by decide +kernel
theorem dX9_wave_76 : decode cX9_wave 76 = .ok (.iload_n 1, 1) := by decide +kernel
theorem dX9_wave_77 : decode cX9_wave 77 = .ok (.iadd, 1) := by decide +kernel
theorem dX9_wave_78 : decode cX9_wave 78 = .ok (.iaload, 1) := by decide +kernel
theorem dX9_wave_79 : decode cX9_wave 79 = .ok (.ireturn, 1) := by decide +kernel
theorem dX9_run_0 : decode cX9_run 0 = .ok (.iload_n 1, 1) := by decide +kernel
theorem dX9_run_1 : decode cX9_run 1 = .ok (.ifCond .lt 9, 3) := by decide +kernel
theorem dX9_run_4 : decode cX9_run 4 = .ok (.iload_n 1, 1) := by decide +kernel
theorem dX9_run_5 : decode cX9_run 5 = .ok (.bipush 8, 2) := by decide +kernel
theorem dX9_run_7 : decode cX9_run 7 = .ok (.if_icmp .lt 10, 3) := by decide +kernel
theorem dX9_run_10 : decode cX9_run 10 = .ok (.aload_n 0, 1) := by decide +kernel
theorem dX9_run_11 : decode cX9_run 11 = .ok (.bipush (-2), 2) := by decide +kernel
theorem dX9_run_13 : decode cX9_run 13 = .ok (.invokevirtual 59, 3) := by decide +kernel
theorem dX9_run_16 : decode cX9_run 16 = .ok (.ireturn, 1) := by decide +kernel
theorem dX9_run_17 : decode cX9_run 17 = .ok (.aload_n 0, 1) := by decide +kernel
theorem dX9_run_18 : decode cX9_run 18 = .ok (.getfield 19, 3) := by decide +kernel
theorem dX9_run_21 : decode cX9_run 21 = .ok (.getfield 198, 3) := by decide +kernel
theorem dX9_run_24 : decode cX9_run 24 = .ok (.ifCond .ne 10, 3) := by decide +kernel
theorem dX9_run_27 : decode cX9_run 27 = .ok (.aload_n 0, 1) := by decide +kernel
theorem dX9_run_28 : decode cX9_run 28 = .ok (.bipush (-5), 2) := by decide +kernel
theorem dX9_run_30 : decode cX9_run 30 = .ok (.invokevirtual 59, 3) := by decide +kernel
theorem dX9_run_33 : decode cX9_run 33 = .ok (.ireturn, 1) := by decide +kernel
theorem dX9_run_34 : decode cX9_run 34 = .ok (.aload_n 0, 1) := by decide +kernel
theorem dX9_run_35 : decode cX9_run 35 = .ok (.getfield 19, 3) := by decide +kernel
theorem dX9_run_38 : decode cX9_run 38 = .ok (.getfield 186, 3) := by decide +kernel
theorem dX9_run_41 : decode cX9_run 41 = .ok (.getfield 202, 3) := by decide +kernel
theorem dX9_run_44 : decode cX9_run 44 = .ok (.iload_n 1, 1) := by decide +kernel
theorem dX9_run_45 : decode cX9_run 45 = .ok (.iaload, 1) := by decide +kernel
theorem dX9_run_46 : decode cX9_run 46 = .ok (.ireturn, 1) := by decide +kernel
theorem dX9_why_0 : decode cX9_why 0 = .ok (.aload_n 0, 1) := by decide +kernel
theorem dX9_why_1 : decode cX9_why 1 = .ok (.getfield 19, 3) := by decide +kernel
theorem dX9_why_4 : decode cX9_why 4 = .ok (.getfield 198, 3) := by decide +kernel
theorem dX9_why_7 : decode cX9_why 7 = .ok (.ifCond .ne 10, 3) := by decide +kernel
theorem dX9_why_10 : decode cX9_why 10 = .ok (.aload_n 0, 1) := by decide +kernel
theorem dX9_why_11 : decode cX9_why 11 = .ok (.bipush (-5), 2) := by decide +kernel
theorem dX9_why_13 : decode cX9_why 13 = .ok (.invokevirtual 59, 3) := by decide +kernel
theorem dX9_why_16 : decode cX9_why 16 = .ok (.ireturn, 1) := by decide +kernel
theorem dX9_why_17 : decode cX9_why 17 = .ok (.aload_n 0, 1) := by decide +kernel
theorem dX9_why_18 : decode cX9_why 18 = .ok (.getfield 19, 3) := by decide +kernel
theorem dX9_why_21 : decode cX9_why 21 = .ok (.getfield 186, 3) := by decide +kernel
theorem dX9_why_24 : decode cX9_why 24 = .ok (.invokevirtual 217, 3) := by decide +kernel
theorem dX9_why_27 : decode cX9_why 27 = .ok (.ireturn, 1) := by decide +kernel
theorem dX9_film_0 : decode cX9_film 0 = .ok (.iload_n 1, 1) := by decide +kernel
theorem dX9_film_1 : decode cX9_film 1 = .ok (.invokestatic 220, 3) := by decide +kernel
theorem dX9_film_4 : decode cX9_film 4 = .ok (.ifCond .ne 10, 3) := by decide +kernel
theorem dX9_film_7 : decode cX9_film 7 = .ok (.aload_n 0, 1) := by decide +kernel
theorem dX9_film_8 : decode cX9_film 8 = .ok (.bipush (-2), 2) := by decide +kernel
theorem dX9_film_10 : decode cX9_film 10 = .ok (.invokevirtual 59, 3) := by decide +kernel
theorem dX9_film_13 : decode cX9_film 13 = .ok (.ireturn, 1) := by decide +kernel
theorem dX9_film_14 : decode cX9_film 14 = .ok (.aload_n 0, 1) := by decide +kernel
theorem dX9_film_15 : decode cX9_film 15 = .ok (.getfield 19, 3) := by decide +kernel
theorem dX9_film_18 : decode cX9_film 18 = .ok (.getfield 198, 3) := by decide +kernel
theorem dX9_film_21 : decode cX9_film 21 = .ok (.ifCond .ne 10, 3) := by decide +kernel
theorem dX9_film_24 : decode cX9_film 24 = .ok (.aload_n 0, 1) := by decide +kernel
theorem dX9_film_25 : decode cX9_film 25 = .ok (.bipush (-5), 2) := by decide +kernel
theorem dX9_film_27 : decode cX9_film 27 = .ok (.invokevirtual 59, 3) := by decide +kernel
theorem dX9_film_30 : decode cX9_film 30 = .ok (.ireturn, 1) := by decide +kernel
theorem dX9_film_31 : decode cX9_film 31 = .ok (.aload_n 0, 1) := by decide +kernel
theorem dX9_film_32 : decode cX9_film 32 = .ok (.getfield 29, 3) := by decide +kernel
theorem dX9_film_35 : decode cX9_film 35 = .ok (.iload_n 1, 1) := by decide +kernel
theorem dX9_film_36 : decode cX9_film 36 = .ok (.aaload, 1) := by decide +kernel
theorem dX9_film_37 : decode cX9_film 37 = .ok (.getfield 223, 3) := by decide +kernel
theorem dX9_film_40 : decode cX9_film 40 = .ok (.ifCond .ne 10, 3) := by decide +kernel
theorem dX9_film_43 : decode cX9_film 43 = .ok (.aload_n 0, 1) := by decide +kernel
theorem dX9_film_44 : decode cX9_film 44 = .ok (.bipush (-6), 2) := by decide +kernel
theorem dX9_film_46 : decode cX9_film 46 = .ok (.invokevirtual 59, 3) := by decide +kernel
theorem dX9_film_49 : decode cX9_film 49 = .ok (.ireturn, 1) := by decide +kernel
theorem dX9_film_50 : decode cX9_film 50 = .ok (.aload_n 0, 1) := by decide +kernel
theorem dX9_film_51 : decode cX9_film 51 = .ok (.getfield 19, 3) := by decide +kernel
theorem dX9_film_54 : decode cX9_film 54 = .ok (.getfield 186, 3) := by decide +kernel
theorem dX9_film_57 : decode cX9_film 57 = .ok (.aload_n 0, 1) := by decide +kernel
theorem dX9_film_58 : decode cX9_film 58 = .ok (.getfield 29, 3) := by decide +kernel
theorem dX9_film_61 : decode cX9_film 61 = .ok (.iload_n 1, 1) := by decide +kernel
theorem dX9_film_62 : decode cX9_film 62 = .ok (.aaload, 1) := by decide +kernel
theorem dX9_film_63 : decode cX9_film 63 = .ok (.invokevirtual 226, 3) := by decide +kernel
theorem dX9_film_66 : decode cX9_film 66 = .ok (.ifCond .eq 7, 3) := by decide +kernel
theorem dX9_film_69 : decode cX9_film 69 = .ok (.iconst 1, 1) := by decide +kernel
theorem dX9_film_70 : decode cX9_film 70 = .ok (.goto 4, 3) := by decide +kernel
theorem dX9_film_73 : decode cX9_film 73 = .ok (.iconst 0, 1) := by decide +kernel
theorem dX9_film_74 : decode cX9_film 74 = .ok (.ireturn, 1) := by decide +kernel
theorem dX9_beyond_0 : decode cX9_beyond 0 = .ok (.aload_n 0, 1) := by decide +kernel
theorem dX9_beyond_1 : decode cX9_beyond 1 = .ok (.iload_n 1, 1) := by decide +kernel
theorem dX9_beyond_2 : decode cX9_beyond 2 = .ok (.invokevirtual 140, 3) := by decide +kernel
theorem dX9_beyond_5 : decode cX9_beyond 5 = .ok (.ifCond .eq 21, 3) := by decide +kernel
theorem dX9_beyond_8 : decode cX9_beyond 8 = .ok (.iload_n 2, 1) := by decide +kernel
theorem dX9_beyond_9 : decode cX9_beyond 9 = .ok (.invokestatic 172, 3) := by decide +kernel
theorem dX9_beyond_12 : decode cX9_beyond 12 = .ok (.ifCond .eq 14, 3) := by decide +kernel
theorem dX9_beyond_15 : decode cX9_beyond 15 = .ok (.iload 4, 2) := by decide +kernel
theorem dX9_beyond_17 : decode cX9_beyond 17 = .ok (.ifCond .lt 9, 3) := by decide +kernel
theorem dX9_beyond_20 : decode cX9_beyond 20 = .ok (.iload 4, 2) := by decide +kernel
theorem dX9_beyond_22 : decode cX9_beyond 22 = .ok (.iconst 2, 1) := by decide +kernel
theorem dX9_beyond_23 : decode cX9_beyond 23 = .ok (.if_icmp .le 10, 3) := by decide +kernel
theorem dX9_beyond_26 : decode cX9_beyond 26 = .ok (.aload_n 0, 1) := by decide +kernel
theorem dX9_beyond_27 : decode cX9_beyond 27 = .ok (.bipush (-2), 2) := by decide +kernel
theorem dX9_beyond_29 : decode cX9_beyond 29 = .ok (.invokevirtual 59, 3) := by decide +kernel
theorem dX9_beyond_32 : decode cX9_beyond 32 = .ok (.ireturn, 1) := by decide +kernel
theorem dX9_beyond_33 : decode cX9_beyond 33 = .ok (.aload_n 0, 1) := by decide +kernel
theorem dX9_beyond_34 : decode cX9_beyond 34 = .ok (.getfield 40, 3) := by decide +kernel
theorem dX9_beyond_37 : decode cX9_beyond 37 = .ok (.aload_n 0, 1) := by decide +kernel
theorem dX9_beyond_38 : decode cX9_beyond 38 = .ok (.getfield 19, 3) := by decide +kernel
theorem dX9_beyond_41 : decode cX9_beyond 41 = .ok (.getfield 94, 3) := by decide +kernel
theorem dX9_beyond_44 : decode cX9_beyond 44 = .ok (.iload_n 1, 1) := by decide +kernel
theorem dX9_beyond_45 : decode cX9_beyond 45 = .ok (.aaload, 1) := by decide +kernel
theorem dX9_beyond_46 : decode cX9_beyond 46 = .ok (.aload_n 0, 1) := by decide +kernel
theorem dX9_beyond_47 : decode cX9_beyond 47 = .ok (.getfield 19, 3) := by decide +kernel
theorem dX9_beyond_50 : decode cX9_beyond 50 = .ok (.getfield 117, 3) := by decide +kernel
theorem dX9_beyond_53 : decode cX9_beyond 53 = .ok (.iload_n 3, 1) := by decide +kernel
theorem dX9_beyond_54 : decode cX9_beyond 54 = .ok (.invokevirtual 230, 3) := by decide +kernel
theorem dX9_beyond_57 : decode cX9_beyond 57 = .ok (.aload_n 0, 1) := by decide +kernel
theorem dX9_beyond_58 : decode cX9_beyond 58 = .ok (.getfield 40, 3) := by decide +kernel
theorem dX9_beyond_61 : decode cX9_beyond 61 = .ok (.aload_n 0, 1) := by decide +kernel
theorem dX9_beyond_62 : decode cX9_beyond 62 = .ok (.getfield 19, 3) := by decide +kernel
theorem dX9_beyond_65 : decode cX9_beyond 65 = .ok (.getfield 105, 3) := by decide +kernel
theorem dX9_beyond_68 : decode cX9_beyond 68 = .ok (.iload_n 2, 1) := by decide +kernel
theorem dX9_beyond_69 : decode cX9_beyond 69 = .ok (.aaload, 1) := by decide +kernel
theorem dX9_beyond_70 : decode cX9_beyond 70 = .ok (.iconst 1, 1) := by decide +kernel
theorem dX9_beyond_71 : decode cX9_beyond 71 = .ok (.invokevirtual 234, 3) := by decide +kernel
theorem dX9_beyond_74 : decode cX9_beyond 74 = .ok (.aload_n 0, 1) := by decide +kernel
theorem dX9_beyond_75 : decode cX9_beyond 75 = .ok (.getfield 40, 3) := by decide +kernel
theorem dX9_beyond_78 : decode cX9_beyond 78 = .ok (.iconst (-1), 1) := by decide +kernel
theorem dX9_beyond_79 : decode cX9_beyond 79 = .ok (.iconst 1, 1) := by decide +kernel
theorem dX9_beyond_80 : decode cX9_beyond 80 = .ok (.invokevirtual 238, 3) := by decide +kernel
theorem dX9_beyond_83 : decode cX9_beyond 83 = .ok (.pop, 1) := by decide +kernel
theorem dX9_beyond_84 : decode cX9_beyond 84 = .ok (.iload 4, 2) := by decide +kernel
theorem dX9_beyond_86 : decode cX9_beyond 86 = .ok (.ifCond .ne 11, 3) := by decide +kernel
theorem dX9_beyond_89 : decode cX9_beyond 89 = .ok (.aload_n 0, 1) := by decide +kernel
theorem dX9_beyond_90 : decode cX9_beyond 90 = .ok (.getfield 40, 3) := by decide +kernel
theorem dX9_beyond_93 : decode cX9_beyond 93 = .ok (.getfield 242, 3) := by decide +kernel
theorem dX9_beyond_96 : decode cX9_beyond 96 = .ok (.ireturn, 1) := by decide +kernel
theorem dX9_beyond_97 : decode cX9_beyond 97 = .ok (.iload 4, 2) := by decide +kernel
theorem dX9_beyond_99 : decode cX9_beyond 99 = .ok (.iconst 1, 1) := by decide +kernel
theorem dX9_beyond_100 : decode cX9_beyond 100 = .ok (.if_icmp .ne 11, 3) := by decide +kernel
theorem dX9_beyond_103 : decode cX9_beyond 103 = .ok (.aload_n 0, 1) := by decide +kernel
theorem dX9_beyond_104 : decode cX9_beyond 104 = .ok (.getfield 40, 3) := by decide +kernel
theorem dX9_beyond_107 : decode cX9_beyond 107 = .ok (.getfield 245, 3) := by decide +kernel
theorem dX9_beyond_110 : decode cX9_beyond 110 = .ok (.ireturn, 1) := by decide +kernel
theorem dX9_beyond_111 : decode cX9_beyond 111 = .ok (.aload_n 0, 1) := by decide +kernel
theorem dX9_beyond_112 : decode cX9_beyond 112 = .ok (.getfield 40, 3) := by decide +kernel
theorem dX9_beyond_115 : decode cX9_beyond 115 = .ok (.invokevirtual 248, 3) := by decide +kernel
theorem dX9_beyond_118 : decode cX9_beyond 118 = .ok (.ireturn, 1) := by decide +kernel
theorem dX9_odds_0 : decode cX9_odds 0 = .ok (.aload_n 0, 1) := by decide +kernel
theorem dX9_odds_1 : decode cX9_odds 1 = .ok (.iload_n 1, 1) := by decide +kernel
theorem dX9_odds_2 : decode cX9_odds 2 = .ok (.invokevirtual 140, 3) := by decide +kernel
theorem dX9_odds_5 : decode cX9_odds 5 = .ok (.ifCond .eq 10, 3) := by decide +kernel
theorem dX9_odds_8 : decode cX9_odds 8 = .ok (.iload_n 2, 1) := by decide +kernel
theorem dX9_odds_9 : decode cX9_odds 9 = .ok (.invokestatic 172, 3) := by decide +kernel
theorem dX9_odds_12 : decode cX9_odds 12 = .ok (.ifCond .ne 10, 3) := by decide +kernel
theorem dX9_odds_15 : decode cX9_odds 15 = .ok (.aload_n 0, 1) := by decide +kernel
theorem dX9_odds_16 : decode cX9_odds 16 = .ok (.bipush (-2), 2) := by decide +kernel
theorem dX9_odds_18 : decode cX9_odds 18 = .ok (.invokevirtual 59, 3) := by decide +kernel
theorem dX9_odds_21 : decode cX9_odds 21 = .ok (.ireturn, 1) := by decide +kernel
theorem dX9_odds_22 : decode cX9_odds 22 = .ok (.iload_n 3, 1) := by decide +kernel
theorem dX9_odds_23 : decode cX9_odds 23 = .ok (.iconst 1, 1) := by decide +kernel
theorem dX9_odds_24 : decode cX9_odds 24 = .ok (.if_icmp .lt 16, 3) := by decide +kernel
theorem dX9_odds_27 : decode cX9_odds 27 = .ok (.iload_n 3, 1) := by decide +kernel
theorem dX9_odds_28 : decode cX9_odds 28 = .ok (.iconst 4, 1) := by decide +kernel
theorem dX9_odds_29 : decode cX9_odds 29 = .ok (.if_icmp .gt 11, 3) := by decide +kernel
theorem dX9_odds_32 : decode cX9_odds 32 = .ok (.iload 4, 2) := by decide +kernel
theorem dX9_odds_34 : decode cX9_odds 34 = .ok (.invokestatic 251, 3) := by decide +kernel
theorem dX9_odds_37 : decode cX9_odds 37 = .ok (.ifCond .ne 10, 3) := by decide +kernel
theorem dX9_odds_40 : decode cX9_odds 40 = .ok (.aload_n 0, 1) := by decide +kernel
theorem dX9_odds_41 : decode cX9_odds 41 = .ok (.bipush (-3), 2) := by decide +kernel
theorem dX9_odds_43 : decode cX9_odds 43 = .ok (.invokevirtual 59, 3) := by decide +kernel
theorem dX9_odds_46 : decode cX9_odds 46 = .ok (.ireturn, 1) := by decide +kernel
theorem dX9_odds_47 : decode cX9_odds 47 = .ok (.iconst 0, 1) := by decide +kernel
theorem dX9_odds_48 : decode cX9_odds 48 = .ok (.istore 5, 2) := by decide +kernel
theorem dX9_odds_50 : decode cX9_odds 50 = .ok (.iconst 1, 1) := by decide +kernel
theorem dX9_odds_51 : decode cX9_odds 51 = .ok (.istore 6, 2) := by decide +kernel
theorem dX9_odds_53 : decode cX9_odds 53 = .ok (.iload 6, 2) := by decide +kernel
theorem dX9_odds_55 : decode cX9_odds 55 = .ok (.iload 4, 2) := by decide +kernel
theorem dX9_odds_57 : decode cX9_odds 57 = .ok (.if_icmp .gt 58, 3) := by decide +kernel
theorem dX9_odds_60 : decode cX9_odds 60 = .ok (.aload_n 0, 1) := by decide +kernel
theorem dX9_odds_61 : decode cX9_odds 61 = .ok (.getfield 40, 3) := by decide +kernel
theorem dX9_odds_64 : decode cX9_odds 64 = .ok (.aload_n 0, 1) := by decide +kernel
theorem dX9_odds_65 : decode cX9_odds 65 = .ok (.getfield 19, 3) := by decide +kernel
theorem dX9_odds_68 : decode cX9_odds 68 = .ok (.getfield 94, 3) := by decide +kernel
theorem dX9_odds_71 : decode cX9_odds 71 = .ok (.iload_n 1, 1) := by decide +kernel
theorem dX9_odds_72 : decode cX9_odds 72 = .ok (.aaload, 1) := by decide +kernel
theorem dX9_odds_73 : decode cX9_odds 73 = .ok (.aload_n 0, 1) := by decide +kernel
theorem dX9_odds_74 : decode cX9_odds 74 = .ok (.getfield 19, 3) := by decide +kernel
theorem dX9_odds_77 : decode cX9_odds 77 = .ok (.getfield 105, 3) := by decide +kernel
theorem dX9_odds_80 : decode cX9_odds 80 = .ok (.iload_n 2, 1) := by decide +kernel
theorem dX9_odds_81 : decode cX9_odds 81 = .ok (.aaload, 1) := by decide +kernel
theorem dX9_odds_82 : decode cX9_odds 82 = .ok (.aload_n 0, 1) := by decide +kernel
theorem dX9_odds_83 : decode cX9_odds 83 = .ok (.getfield 19, 3) := by decide +kernel
theorem dX9_odds_86 : decode cX9_odds 86 = .ok (.getfield 117, 3) := by decide +kernel
theorem dX9_odds_89 : decode cX9_odds 89 = .ok (.iload 6, 2) := by decide +kernel
theorem dX9_odds_91 : decode cX9_odds 91 = .ok (.invokevirtual 182, 3) := by decide +kernel
theorem dX9_odds_94 : decode cX9_odds 94 = .ok (.istore 7, 2) := by decide +kernel
theorem dX9_odds_96 : decode cX9_odds 96 = .ok (.iload 7, 2) := by decide +kernel
theorem dX9_odds_98 : decode cX9_odds 98 = .ok (.iconst 4, 1) := by decide +kernel
theorem dX9_odds_99 : decode cX9_odds 99 = .ok (.invokestatic 254, 3) := by decide +kernel
theorem dX9_odds_102 : decode cX9_odds 102 = .ok (.iload_n 3, 1) := by decide +kernel
theorem dX9_odds_103 : decode cX9_odds 103 = .ok (.if_icmp .ne 6, 3) := by decide +kernel
theorem dX9_odds_106 : decode cX9_odds 106 = .ok (.iinc 5 1, 3) := by decide +kernel
theorem dX9_odds_109 : decode cX9_odds 109 = .ok (.iinc 6 1, 3) := by decide +kernel
theorem dX9_odds_112 : decode cX9_odds 112 = .ok (.goto (-59), 3) := by decide +kernel
theorem dX9_odds_115 : decode cX9_odds 115 = .ok (.iload 5, 2) := by decide +kernel
theorem dX9_odds_117 : decode cX9_odds 117 = .ok (.ireturn, 1) := by decide +kernel
theorem dX9_ends_0 : decode cX9_ends 0 = .ok (.aload_n 0, 1) := by decide +kernel
theorem dX9_ends_1 : decode cX9_ends 1 = .ok (.iload_n 1, 1) := by decide +kernel
theorem dX9_ends_2 : decode cX9_ends 2 = .ok (.iload_n 3, 1) := by decide +kernel
theorem dX9_ends_3 : decode cX9_ends 3 = .ok (.invokevirtual 150, 3) := by decide +kernel
theorem dX9_ends_6 : decode cX9_ends 6 = .ok (.ifCond .eq 10, 3) := by decide +kernel
theorem dX9_ends_9 : decode cX9_ends 9 = .ok (.iload_n 2, 1) := by decide +kernel
theorem dX9_ends_10 : decode cX9_ends 10 = .ok (.invokestatic 172, 3) := by decide +kernel
theorem dX9_ends_13 : decode cX9_ends 13 = .ok (.ifCond .ne 10, 3) := by decide +kernel
theorem dX9_ends_16 : decode cX9_ends 16 = .ok (.aload_n 0, 1) := by decide +kernel
theorem dX9_ends_17 : decode cX9_ends 17 = .ok (.bipush (-2), 2) := by decide +kernel
theorem dX9_ends_19 : decode cX9_ends 19 = .ok (.invokevirtual 59, 3) := by decide +kernel
theorem dX9_ends_22 : decode cX9_ends 22 = .ok (.ireturn, 1) := by decide +kernel
theorem dX9_ends_23 : decode cX9_ends 23 = .ok (.iload 4, 2) := by decide +kernel
theorem dX9_ends_25 : decode cX9_ends 25 = .ok (.invokestatic 251, 3) := by decide +kernel
theorem dX9_ends_28 : decode cX9_ends 28 = .ok (.ifCond .ne 10, 3) := by decide +kernel
theorem dX9_ends_31 : decode cX9_ends 31 = .ok (.aload_n 0, 1) := by decide +kernel
theorem dX9_ends_32 : decode cX9_ends 32 = .ok (.bipush (-3), 2) := by decide +kernel
theorem dX9_ends_34 : decode cX9_ends 34 = .ok (.invokevirtual 59, 3) := by decide +kernel
theorem dX9_ends_37 : decode cX9_ends 37 = .ok (.ireturn, 1) := by decide +kernel
theorem dX9_ends_38 : decode cX9_ends 38 = .ok (.iconst 0, 1) := by decide +kernel
theorem dX9_ends_39 : decode cX9_ends 39 = .ok (.istore 5, 2) := by decide +kernel
theorem dX9_ends_41 : decode cX9_ends 41 = .ok (.iconst 1, 1) := by decide +kernel
theorem dX9_ends_42 : decode cX9_ends 42 = .ok (.istore 6, 2) := by decide +kernel
theorem dX9_ends_44 : decode cX9_ends 44 = .ok (.iload 6, 2) := by decide +kernel
theorem dX9_ends_46 : decode cX9_ends 46 = .ok (.iload 4, 2) := by decide +kernel
theorem dX9_ends_48 : decode cX9_ends 48 = .ok (.if_icmp .gt 62, 3) := by decide +kernel
theorem dX9_ends_51 : decode cX9_ends 51 = .ok (.aload_n 0, 1) := by decide +kernel
theorem dX9_ends_52 : decode cX9_ends 52 = .ok (.getfield 40, 3) := by decide +kernel
theorem dX9_ends_55 : decode cX9_ends 55 = .ok (.aload_n 0, 1) := by decide +kernel
theorem dX9_ends_56 : decode cX9_ends 56 = .ok (.getfield 19, 3) := by decide +kernel
theorem dX9_ends_59 : decode cX9_ends 59 = .ok (.getfield 94, 3) := by decide +kernel
theorem dX9_ends_62 : decode cX9_ends 62 = .ok (.iload_n 1, 1) := by decide +kernel
theorem dX9_ends_63 : decode cX9_ends 63 = .ok (.aaload, 1) := by decide +kernel
theorem dX9_ends_64 : decode cX9_ends 64 = .ok (.aload_n 0, 1) := by decide +kernel
theorem dX9_ends_65 : decode cX9_ends 65 = .ok (.getfield 19, 3) := by decide +kernel
theorem dX9_ends_68 : decode cX9_ends 68 = .ok (.getfield 105, 3) := by decide +kernel
theorem dX9_ends_71 : decode cX9_ends 71 = .ok (.iload_n 2, 1) := by decide +kernel
theorem dX9_ends_72 : decode cX9_ends 72 = .ok (.aaload, 1) := by decide +kernel
theorem dX9_ends_73 : decode cX9_ends 73 = .ok (.aload_n 0, 1) := by decide +kernel
theorem dX9_ends_74 : decode cX9_ends 74 = .ok (.getfield 19, 3) := by decide +kernel
theorem dX9_ends_77 : decode cX9_ends 77 = .ok (.getfield 117, 3) := by decide +kernel
theorem dX9_ends_80 : decode cX9_ends 80 = .ok (.iload 6, 2) := by decide +kernel
theorem dX9_ends_82 : decode cX9_ends 82 = .ok (.invokevirtual 182, 3) := by decide +kernel
theorem dX9_ends_85 : decode cX9_ends 85 = .ok (.pop, 1) := by decide +kernel
theorem dX9_ends_86 : decode cX9_ends 86 = .ok (.aload_n 0, 1) := by decide +kernel
theorem dX9_ends_87 : decode cX9_ends 87 = .ok (.getfield 40, 3) := by decide +kernel
theorem dX9_ends_90 : decode cX9_ends 90 = .ok (.getfield 190, 3) := by decide +kernel
theorem dX9_ends_93 : decode cX9_ends 93 = .ok (.iload_n 3, 1) := by decide +kernel
theorem dX9_ends_94 : decode cX9_ends 94 = .ok (.invokevirtual 259, 3) := by decide +kernel
theorem dX9_ends_97 : decode cX9_ends 97 = .ok (.iconst (-1), 1) := by decide +kernel
theorem dX9_ends_98 : decode cX9_ends 98 = .ok (.if_icmp .eq 6, 3) := by decide +kernel
theorem dX9_ends_101 : decode cX9_ends 101 = .ok (.iinc 5 1, 3) := by decide +kernel
theorem dX9_ends_104 : decode cX9_ends 104 = .ok (.iinc 6 1, 3) := by decide +kernel
theorem dX9_ends_107 : decode cX9_ends 107 = .ok (.goto (-63), 3) := by decide +kernel
theorem dX9_ends_110 : decode cX9_ends 110 = .ok (.iload 5, 2) := by decide +kernel
theorem dX9_ends_112 : decode cX9_ends 112 = .ok (.ireturn, 1) := by decide +kernel
theorem dX9_paced_0 : decode cX9_paced 0 = .ok (.aload_n 0, 1) := by decide +kernel
theorem dX9_paced_1 : decode cX9_paced 1 = .ok (.iload_n 1, 1) := by decide +kernel
theorem dX9_paced_2 : decode cX9_paced 2 = .ok (.invokevirtual 140, 3) := by decide +kernel
theorem dX9_paced_5 : decode cX9_paced 5 = .ok (.ifCond .eq 10, 3) := by decide +kernel
theorem dX9_paced_8 : decode cX9_paced 8 = .ok (.iload_n 2, 1) := by decide +kernel
theorem dX9_paced_9 : decode cX9_paced 9 = .ok (.invokestatic 172, 3) := by decide +kernel
theorem dX9_paced_12 : decode cX9_paced 12 = .ok (.ifCond .ne 10, 3) := by decide +kernel
theorem dX9_paced_15 : decode cX9_paced 15 = .ok (.aload_n 0, 1) := by decide +kernel
theorem dX9_paced_16 : decode cX9_paced 16 = .ok (.bipush (-2), 2) := by decide +kernel
theorem dX9_paced_18 : decode cX9_paced 18 = .ok (.invokevirtual 59, 3) := by decide +kernel
theorem dX9_paced_21 : decode cX9_paced 21 = .ok (.ireturn, 1) := by decide +kernel
theorem dX9_paced_22 : decode cX9_paced 22 = .ok (.iload 4, 2) := by decide +kernel
theorem dX9_paced_24 : decode cX9_paced 24 = .ok (.invokestatic 262, 3) := by decide +kernel
theorem dX9_paced_27 : decode cX9_paced 27 = .ok (.ifCond .ne 10, 3) := by decide +kernel
theorem dX9_paced_30 : decode cX9_paced 30 = .ok (.aload_n 0, 1) := by decide +kernel
theorem dX9_paced_31 : decode cX9_paced 31 = .ok (.bipush (-3), 2) := by decide +kernel
theorem dX9_paced_33 : decode cX9_paced 33 = .ok (.invokevirtual 59, 3) := by decide +kernel
theorem dX9_paced_36 : decode cX9_paced 36 = .ok (.ireturn, 1) := by decide +kernel
theorem dX9_paced_37 : decode cX9_paced 37 = .ok (.aload_n 0, 1) := by decide +kernel
theorem dX9_paced_38 : decode cX9_paced 38 = .ok (.getfield 40, 3) := by decide +kernel
theorem dX9_paced_41 : decode cX9_paced 41 = .ok (.aload_n 0, 1) := by decide +kernel
theorem dX9_paced_42 : decode cX9_paced 42 = .ok (.getfield 19, 3) := by decide +kernel
theorem dX9_paced_45 : decode cX9_paced 45 = .ok (.getfield 94, 3) := by decide +kernel
theorem dX9_paced_48 : decode cX9_paced 48 = .ok (.iload_n 1, 1) := by decide +kernel
theorem dX9_paced_49 : decode cX9_paced 49 = .ok (.aaload, 1) := by decide +kernel
theorem dX9_paced_50 : decode cX9_paced 50 = .ok (.aload_n 0, 1) := by decide +kernel
theorem dX9_paced_51 : decode cX9_paced 51 = .ok (.getfield 19, 3) := by decide +kernel
theorem dX9_paced_54 : decode cX9_paced 54 = .ok (.getfield 117, 3) := by decide +kernel
theorem dX9_paced_57 : decode cX9_paced 57 = .ok (.iload_n 3, 1) := by decide +kernel
theorem dX9_paced_58 : decode cX9_paced 58 = .ok (.invokevirtual 230, 3) := by decide +kernel
theorem dX9_paced_61 : decode cX9_paced 61 = .ok (.aload_n 0, 1) := by decide +kernel
theorem dX9_paced_62 : decode cX9_paced 62 = .ok (.getfield 40, 3) := by decide +kernel
theorem dX9_paced_65 : decode cX9_paced 65 = .ok (.aload_n 0, 1) := by decide +kernel
theorem dX9_paced_66 : decode cX9_paced 66 = .ok (.getfield 19, 3) := by decide +kernel
theorem dX9_paced_69 : decode cX9_paced 69 = .ok (.getfield 105, 3) := by decide +kernel
theorem dX9_paced_72 : decode cX9_paced 72 = .ok (.iload_n 2, 1) := by decide +kernel
theorem dX9_paced_73 : decode cX9_paced 73 = .ok (.aaload, 1) := by decide +kernel
theorem dX9_paced_74 : decode cX9_paced 74 = .ok (.iload 4, 2) := by decide +kernel
theorem dX9_paced_76 : decode cX9_paced 76 = .ok (.invokevirtual 234, 3) := by decide +kernel
theorem dX9_paced_79 : decode cX9_paced 79 = .ok (.aload_n 0, 1) := by decide +kernel
theorem dX9_paced_80 : decode cX9_paced 80 = .ok (.getfield 40, 3) := by decide +kernel
theorem dX9_paced_83 : decode cX9_paced 83 = .ok (.iconst (-1), 1) := by decide +kernel
theorem dX9_paced_84 : decode cX9_paced 84 = .ok (.iconst 0, 1) := by decide +kernel
theorem dX9_paced_85 : decode cX9_paced 85 = .ok (.invokevirtual 238, 3) := by decide +kernel
theorem dX9_paced_88 : decode cX9_paced 88 = .ok (.ireturn, 1) := by decide +kernel
theorem dX9_turned_0 : decode cX9_turned 0 = .ok (.aload_n 0, 1) := by decide +kernel
theorem dX9_turned_1 : decode cX9_turned 1 = .ok (.iload_n 1, 1) := by decide +kernel
theorem dX9_turned_2 : decode cX9_turned 2 = .ok (.invokevirtual 140, 3) := by decide +kernel
theorem dX9_turned_5 : decode cX9_turned 5 = .ok (.ifCond .eq 10, 3) := by decide +kernel
theorem dX9_turned_8 : decode cX9_turned 8 = .ok (.iload_n 2, 1) := by decide +kernel
theorem dX9_turned_9 : decode cX9_turned 9 = .ok (.invokestatic 172, 3) := by decide +kernel
theorem dX9_turned_12 : decode cX9_turned 12 = .ok (.ifCond .ne 10, 3) := by decide +kernel
theorem dX9_turned_15 : decode cX9_turned 15 = .ok (.aload_n 0, 1) := by decide +kernel
theorem dX9_turned_16 : decode cX9_turned 16 = .ok (.bipush (-2), 2) := by decide +kernel
theorem dX9_turned_18 : decode cX9_turned 18 = .ok (.invokevirtual 59, 3) := by decide +kernel
theorem dX9_turned_21 : decode cX9_turned 21 = .ok (.ireturn, 1) := by decide +kernel
theorem dX9_turned_22 : decode cX9_turned 22 = .ok (.iload 4, 2) := by decide +kernel
theorem dX9_turned_24 : decode cX9_turned 24 = .ok (.ifCond .lt 11, 3) := by decide +kernel
theorem dX9_turned_27 : decode cX9_turned 27 = .ok (.iload 4, 2) := by decide +kernel
theorem dX9_turned_29 : decode cX9_turned 29 = .ok (.sipush 999, 3) := by decide +kernel
theorem dX9_turned_32 : decode cX9_turned 32 = .ok (.if_icmp .le 10, 3) := by decide +kernel
theorem dX9_turned_35 : decode cX9_turned 35 = .ok (.aload_n 0, 1) := by decide +kernel
theorem dX9_turned_36 : decode cX9_turned 36 = .ok (.bipush (-3), 2) := by decide +kernel
theorem dX9_turned_38 : decode cX9_turned 38 = .ok (.invokevirtual 59, 3) := by decide +kernel
theorem dX9_turned_41 : decode cX9_turned 41 = .ok (.ireturn, 1) := by decide +kernel
theorem dX9_turned_42 : decode cX9_turned 42 = .ok (.aload_n 0, 1) := by decide +kernel
theorem dX9_turned_43 : decode cX9_turned 43 = .ok (.getfield 40, 3) := by decide +kernel
theorem dX9_turned_46 : decode cX9_turned 46 = .ok (.aload_n 0, 1) := by decide +kernel
theorem dX9_turned_47 : decode cX9_turned 47 = .ok (.getfield 19, 3) := by decide +kernel
theorem dX9_turned_50 : decode cX9_turned 50 = .ok (.getfield 94, 3) := by decide +kernel
theorem dX9_turned_53 : decode cX9_turned 53 = .ok (.iload_n 1, 1) := by decide +kernel
theorem dX9_turned_54 : decode cX9_turned 54 = .ok (.aaload, 1) := by decide +kernel
theorem dX9_turned_55 : decode cX9_turned 55 = .ok (.aload_n 0, 1) := by decide +kernel
theorem dX9_turned_56 : decode cX9_turned 56 = .ok (.getfield 19, 3) := by decide +kernel
theorem dX9_turned_59 : decode cX9_turned 59 = .ok (.getfield 117, 3) := by decide +kernel
theorem dX9_turned_62 : decode cX9_turned 62 = .ok (.iload_n 3, 1) := by decide +kernel
theorem dX9_turned_63 : decode cX9_turned 63 = .ok (.invokevirtual 230, 3) := by decide +kernel
theorem dX9_turned_66 : decode cX9_turned 66 = .ok (.aload_n 0, 1) := by decide +kernel
theorem dX9_turned_67 : decode cX9_turned 67 = .ok (.getfield 40, 3) := by decide +kernel
theorem dX9_turned_70 : decode cX9_turned 70 = .ok (.aload_n 0, 1) := by decide +kernel
theorem dX9_turned_71 : decode cX9_turned 71 = .ok (.getfield 19, 3) := by decide +kernel
theorem dX9_turned_74 : decode cX9_turned 74 = .ok (.getfield 105, 3) := by decide +kernel
theorem dX9_turned_77 : decode cX9_turned 77 = .ok (.iload_n 2, 1) := by decide +kernel
theorem dX9_turned_78 : decode cX9_turned 78 = .ok (.aaload, 1) := by decide +kernel
theorem dX9_turned_79 : decode cX9_turned 79 = .ok (.iconst 1, 1) := by decide +kernel
theorem dX9_turned_80 : decode cX9_turned 80 = .ok (.invokevirtual 234, 3) := by decide +kernel
theorem dX9_turned_83 : decode cX9_turned 83 = .ok (.aload_n 0, 1) := by decide +kernel
theorem dX9_turned_84 : decode cX9_turned 84 = .ok (.getfield 40, 3) := by decide +kernel
theorem dX9_turned_87 : decode cX9_turned 87 = .ok (.iload 4, 2) := by decide +kernel
theorem dX9_turned_89 : decode cX9_turned 89 = .ok (.iconst 0, 1) := by decide +kernel
theorem dX9_turned_90 : decode cX9_turned 90 = .ok (.invokevirtual 238, 3) := by decide +kernel
theorem dX9_turned_93 : decode cX9_turned 93 = .ok (.ireturn, 1) := by decide +kernel
theorem dX9_least_0 : decode cX9_least 0 = .ok (.aload_n 0, 1) := by decide +kernel
theorem dX9_least_1 : decode cX9_least 1 = .ok (.iload_n 1, 1) := by decide +kernel
theorem dX9_least_2 : decode cX9_least 2 = .ok (.invokevirtual 140, 3) := by decide +kernel
theorem dX9_least_5 : decode cX9_least 5 = .ok (.ifCond .eq 10, 3) := by decide +kernel
theorem dX9_least_8 : decode cX9_least 8 = .ok (.iload_n 2, 1) := by decide +kernel
theorem dX9_least_9 : decode cX9_least 9 = .ok (.invokestatic 172, 3) := by decide +kernel
theorem dX9_least_12 : decode cX9_least 12 = .ok (.ifCond .ne 10, 3) := by decide +kernel
theorem dX9_least_15 : decode cX9_least 15 = .ok (.aload_n 0, 1) := by decide +kernel
theorem dX9_least_16 : decode cX9_least 16 = .ok (.bipush (-2), 2) := by decide +kernel
theorem dX9_least_18 : decode cX9_least 18 = .ok (.invokevirtual 59, 3) := by decide +kernel
theorem dX9_least_21 : decode cX9_least 21 = .ok (.ireturn, 1) := by decide +kernel
theorem dX9_least_22 : decode cX9_least 22 = .ok (.aload_n 0, 1) := by decide +kernel
theorem dX9_least_23 : decode cX9_least 23 = .ok (.iload_n 1, 1) := by decide +kernel
theorem dX9_least_24 : decode cX9_least 24 = .ok (.iload_n 2, 1) := by decide +kernel
theorem dX9_least_25 : decode cX9_least 25 = .ok (.iload_n 3, 1) := by decide +kernel
theorem dX9_least_26 : decode cX9_least 26 = .ok (.iconst 1, 1) := by decide +kernel
theorem dX9_least_27 : decode cX9_least 27 = .ok (.invokevirtual 265, 3) := by decide +kernel
theorem dX9_least_30 : decode cX9_least 30 = .ok (.ireturn, 1) := by decide +kernel
theorem dX9_line_0 : decode cX9_line 0 = .ok (.aload_n 0, 1) := by decide +kernel
theorem dX9_line_1 : decode cX9_line 1 = .ok (.iload_n 1, 1) := by decide +kernel
theorem dX9_line_2 : decode cX9_line 2 = .ok (.invokevirtual 140, 3) := by decide +kernel
theorem dX9_line_5 : decode cX9_line 5 = .ok (.ifCond .eq 10, 3) := by decide +kernel
theorem dX9_line_8 : decode cX9_line 8 = .ok (.iload_n 2, 1) := by decide +kernel
theorem dX9_line_9 : decode cX9_line 9 = .ok (.invokestatic 172, 3) := by decide +kernel
theorem dX9_line_12 : decode cX9_line 12 = .ok (.ifCond .ne 10, 3) := by decide +kernel
theorem dX9_line_15 : decode cX9_line 15 = .ok (.aload_n 0, 1) := by decide +kernel
theorem dX9_line_16 : decode cX9_line 16 = .ok (.bipush (-2), 2) := by decide +kernel
theorem dX9_line_18 : decode cX9_line 18 = .ok (.invokevirtual 59, 3) := by decide +kernel
theorem dX9_line_21 : decode cX9_line 21 = .ok (.ireturn, 1) := by decide +kernel
theorem dX9_line_22 : decode cX9_line 22 = .ok (.iload 4, 2) := by decide +kernel
theorem dX9_line_24 : decode cX9_line 24 = .ok (.invokestatic 262, 3) := by decide +kernel
theorem dX9_line_27 : decode cX9_line 27 = .ok (.ifCond .ne 10, 3) := by decide +kernel
theorem dX9_line_30 : decode cX9_line 30 = .ok (.aload_n 0, 1) := by decide +kernel
theorem dX9_line_31 : decode cX9_line 31 = .ok (.bipush (-3), 2) := by decide +kernel
theorem dX9_line_33 : decode cX9_line 33 = .ok (.invokevirtual 59, 3) := by decide +kernel
theorem dX9_line_36 : decode cX9_line 36 = .ok (.ireturn, 1) := by decide +kernel
theorem dX9_line_37 : decode cX9_line 37 = .ok (.aload_n 0, 1) := by decide +kernel
theorem dX9_line_38 : decode cX9_line 38 = .ok (.iload_n 1, 1) := by decide +kernel
theorem dX9_line_39 : decode cX9_line 39 = .ok (.iload_n 2, 1) := by decide +kernel
theorem dX9_line_40 : decode cX9_line 40 = .ok (.iload_n 3, 1) := by decide +kernel
theorem dX9_line_41 : decode cX9_line 41 = .ok (.iload 4, 2) := by decide +kernel
theorem dX9_line_43 : decode cX9_line 43 = .ok (.invokevirtual 265, 3) := by decide +kernel
theorem dX9_line_46 : decode cX9_line 46 = .ok (.ireturn, 1) := by decide +kernel
theorem dX9_leastTurn_0 : decode cX9_leastTurn 0 = .ok (.aload_n 0, 1) := by decide +kernel
theorem dX9_leastTurn_1 : decode cX9_leastTurn 1 = .ok (.getfield 40, 3) := by decide +kernel
theorem dX9_leastTurn_4 : decode cX9_leastTurn 4 = .ok (.aload_n 0, 1) := by decide +kernel
theorem dX9_leastTurn_5 : decode cX9_leastTurn 5 = .ok (.getfield 19, 3) := by decide +kernel
theorem dX9_leastTurn_8 : decode cX9_leastTurn 8 = .ok (.getfield 94, 3) := by decide +kernel
theorem dX9_leastTurn_11 : decode cX9_leastTurn 11 = .ok (.iload_n 1, 1) := by decide +kernel
theorem dX9_leastTurn_12 : decode cX9_leastTurn 12 = .ok (.aaload, 1) := by decide +kernel
theorem dX9_leastTurn_13 : decode cX9_leastTurn 13 = .ok (.aload_n 0, 1) := by decide +kernel
theorem dX9_leastTurn_14 : decode cX9_leastTurn 14 = .ok (.getfield 19, 3) := by decide +kernel
theorem dX9_leastTurn_17 : decode cX9_leastTurn 17 = .ok (.getfield 117, 3) := by decide +kernel
theorem dX9_leastTurn_20 : decode cX9_leastTurn 20 = .ok (.iload_n 3, 1) := by decide +kernel
theorem dX9_leastTurn_21 : decode cX9_leastTurn 21 = .ok (.invokevirtual 230, 3) := by decide +kernel
theorem dX9_leastTurn_24 : decode cX9_leastTurn 24 = .ok (.aload_n 0, 1) := by decide +kernel
theorem dX9_leastTurn_25 : decode cX9_leastTurn 25 = .ok (.getfield 40, 3) := by decide +kernel
theorem dX9_leastTurn_28 : decode cX9_leastTurn 28 = .ok (.aload_n 0, 1) := by decide +kernel
theorem dX9_leastTurn_29 : decode cX9_leastTurn 29 = .ok (.getfield 19, 3) := by decide +kernel
theorem dX9_leastTurn_32 : decode cX9_leastTurn 32 = .ok (.getfield 105, 3) := by decide +kernel
theorem dX9_leastTurn_35 : decode cX9_leastTurn 35 = .ok (.iload_n 2, 1) := by decide +kernel
theorem dX9_leastTurn_36 : decode cX9_leastTurn 36 = .ok (.aaload, 1) := by decide +kernel
theorem dX9_leastTurn_37 : decode cX9_leastTurn 37 = .ok (.iload 4, 2) := by decide +kernel
theorem dX9_leastTurn_39 : decode cX9_leastTurn 39 = .ok (.invokevirtual 234, 3) := by decide +kernel
theorem dX9_leastTurn_42 : decode cX9_leastTurn 42 = .ok (.iconst 0, 1) := by decide +kernel
theorem dX9_leastTurn_43 : decode cX9_leastTurn 43 = .ok (.istore 5, 2) := by decide +kernel
theorem dX9_leastTurn_45 : decode cX9_leastTurn 45 = .ok (.iload 5, 2) := by decide +kernel
theorem dX9_leastTurn_47 : decode cX9_leastTurn 47 = .ok (.sipush 999, 3) := by decide +kernel
theorem dX9_leastTurn_50 : decode cX9_leastTurn 50 = .ok (.if_icmp .gt 72, 3) := by decide +kernel
theorem dX9_leastTurn_53 : decode cX9_leastTurn 53 = .ok (.iload 5, 2) := by decide +kernel
theorem dX9_leastTurn_55 : decode cX9_leastTurn 55 = .ok (.ifCond .eq 32, 3) := by decide +kernel
theorem dX9_leastTurn_58 : decode cX9_leastTurn 58 = .ok (.aload_n 0, 1) := by decide +kernel
theorem dX9_leastTurn_59 : decode cX9_leastTurn 59 = .ok (.getfield 19, 3) := by decide +kernel
theorem dX9_leastTurn_62 : decode cX9_leastTurn 62 = .ok (.getfield 117, 3) := by decide +kernel
theorem dX9_leastTurn_65 : decode cX9_leastTurn 65 = .ok (.iload 5, 2) := by decide +kernel
theorem dX9_leastTurn_67 : decode cX9_leastTurn 67 = .ok (.invokevirtual 269, 3) := by decide +kernel
theorem dX9_leastTurn_70 : decode cX9_leastTurn 70 = .ok (.aload_n 0, 1) := by decide +kernel
theorem dX9_leastTurn_71 : decode cX9_leastTurn 71 = .ok (.getfield 19, 3) := by decide +kernel
theorem dX9_leastTurn_74 : decode cX9_leastTurn 74 = .ok (.getfield 117, 3) := by decide +kernel
theorem dX9_leastTurn_77 : decode cX9_leastTurn 77 = .ok (.iload 5, 2) := by decide +kernel
theorem dX9_leastTurn_79 : decode cX9_leastTurn 79 = .ok (.iconst 1, 1) := by decide +kernel
theorem dX9_leastTurn_80 : decode cX9_leastTurn 80 = .ok (.isub, 1) := by decide +kernel
theorem dX9_leastTurn_81 : decode cX9_leastTurn 81 = .ok (.invokevirtual 269, 3) := by decide +kernel
theorem dX9_leastTurn_84 : decode cX9_leastTurn 84 = .ok (.if_icmp .eq 7, 3) := by decide +kernel
theorem dX9_leastTurn_87 : decode cX9_leastTurn 87 = .ok (.iconst 1, 1) := by decide +kernel
theorem dX9_leastTurn_88 : decode cX9_leastTurn 88 = .ok (.goto 4, 3) := by decide +kernel
theorem dX9_leastTurn_91 : decode cX9_leastTurn 91 = .ok (.iconst 0, 1) := by decide +kernel
theorem dX9_leastTurn_92 : decode cX9_leastTurn 92 = .ok (.istore 6, 2) := by decide +kernel
theorem dX9_leastTurn_94 : decode cX9_leastTurn 94 = .ok (.iload 6, 2) := by decide +kernel
theorem dX9_leastTurn_96 : decode cX9_leastTurn 96 = .ok (.ifCond .eq 20, 3) := by decide +kernel
theorem dX9_leastTurn_99 : decode cX9_leastTurn 99 = .ok (.aload_n 0, 1) := by decide +kernel
theorem dX9_leastTurn_100 : decode cX9_leastTurn 100 = .ok (.getfield 40, 3) := by decide +kernel
theorem dX9_leastTurn_103 : decode cX9_leastTurn 103 = .ok (.iload 5, 2) := by decide +kernel
theorem dX9_leastTurn_105 : decode cX9_leastTurn 105 = .ok (.iconst 0, 1) := by decide +kernel
theorem dX9_leastTurn_106 : decode cX9_leastTurn 106 = .ok (.invokevirtual 238, 3) := by decide +kernel
theorem dX9_leastTurn_109 : decode cX9_leastTurn 109 = .ok (.iconst 2, 1) := by decide +kernel
theorem dX9_leastTurn_110 : decode cX9_leastTurn 110 = .ok (.if_icmp .ne 6, 3) := by decide +kernel
theorem dX9_leastTurn_113 : decode cX9_leastTurn 113 = .ok (.iload 5, 2) := by decide +kernel
theorem dX9_leastTurn_115 : decode cX9_leastTurn 115 = .ok (.ireturn, 1) := by decide +kernel
theorem dX9_leastTurn_116 : decode cX9_leastTurn 116 = .ok (.iinc 5 1, 3) := by decide +kernel
theorem dX9_leastTurn_119 : decode cX9_leastTurn 119 = .ok (.goto (-74), 3) := by decide +kernel
theorem dX9_leastTurn_122 : decode cX9_leastTurn 122 = .ok (.iconst (-1), 1) := by decide +kernel
theorem dX9_leastTurn_123 : decode cX9_leastTurn 123 = .ok (.ireturn, 1) := by decide +kernel
theorem dX9_notched_0 : decode cX9_notched 0 = .ok (.aload_n 0, 1) := by decide +kernel
theorem dX9_notched_1 : decode cX9_notched 1 = .ok (.iload_n 1, 1) := by decide +kernel
theorem dX9_notched_2 : decode cX9_notched 2 = .ok (.iload 4, 2) := by decide +kernel
theorem dX9_notched_4 : decode cX9_notched 4 = .ok (.invokevirtual 150, 3) := by decide +kernel
theorem dX9_notched_7 : decode cX9_notched 7 = .ok (.ifCond .eq 10, 3) := by decide +kernel
theorem dX9_notched_10 : decode cX9_notched 10 = .ok (.iload_n 2, 1) := by decide +kernel
theorem dX9_notched_11 : decode cX9_notched 11 = .ok (.invokestatic 172, 3) := by decide +kernel
theorem dX9_notched_14 : decode cX9_notched 14 = .ok (.ifCond .ne 10, 3) := by decide +kernel
theorem dX9_notched_17 : decode cX9_notched 17 = .ok (.aload_n 0, 1) := by decide +kernel
theorem dX9_notched_18 : decode cX9_notched 18 = .ok (.bipush (-2), 2) := by decide +kernel
theorem dX9_notched_20 : decode cX9_notched 20 = .ok (.invokevirtual 59, 3) := by decide +kernel
theorem dX9_notched_23 : decode cX9_notched 23 = .ok (.ireturn, 1) := by decide +kernel
theorem dX9_notched_24 : decode cX9_notched 24 = .ok (.iload 5, 2) := by decide +kernel
theorem dX9_notched_26 : decode cX9_notched 26 = .ok (.ifCond .lt 10, 3) := by decide +kernel
theorem dX9_notched_29 : decode cX9_notched 29 = .ok (.iload 5, 2) := by decide +kernel
theorem dX9_notched_31 : decode cX9_notched 31 = .ok (.bipush 99, 2) := by decide +kernel
theorem dX9_notched_33 : decode cX9_notched 33 = .ok (.if_icmp .le 10, 3) := by decide +kernel
theorem dX9_notched_36 : decode cX9_notched 36 = .ok (.aload_n 0, 1) := by decide +kernel
theorem dX9_notched_37 : decode cX9_notched 37 = .ok (.bipush (-3), 2) := by decide +kernel
theorem dX9_notched_39 : decode cX9_notched 39 = .ok (.invokevirtual 59, 3) := by decide +kernel
theorem dX9_notched_42 : decode cX9_notched 42 = .ok (.ireturn, 1) := by decide +kernel
theorem dX9_notched_43 : decode cX9_notched 43 = .ok (.aload_n 0, 1) := by decide +kernel
theorem dX9_notched_44 : decode cX9_notched 44 = .ok (.getfield 47, 3) := by decide +kernel
theorem dX9_notched_47 : decode cX9_notched 47 = .ok (.aload_n 0, 1) := by decide +kernel
theorem dX9_notched_48 : decode cX9_notched 48 = .ok (.getfield 19, 3) := by decide +kernel
theorem dX9_notched_51 : decode cX9_notched 51 = .ok (.getfield 94, 3) := by decide +kernel
theorem dX9_notched_54 : decode cX9_notched 54 = .ok (.iload_n 1, 1) := by decide +kernel
theorem dX9_notched_55 : decode cX9_notched 55 = .ok (.aaload, 1) := by decide +kernel
theorem dX9_notched_56 : decode cX9_notched 56 = .ok (.invokevirtual 101, 3) := by decide +kernel
theorem dX9_notched_59 : decode cX9_notched 59 = .ok (.aload_n 0, 1) := by decide +kernel
theorem dX9_notched_60 : decode cX9_notched 60 = .ok (.iload_n 2, 1) := by decide +kernel
theorem dX9_notched_61 : decode cX9_notched 61 = .ok (.iload_n 3, 1) := by decide +kernel
theorem dX9_notched_62 : decode cX9_notched 62 = .ok (.iload 4, 2) := by decide +kernel
theorem dX9_notched_64 : decode cX9_notched 64 = .ok (.iload 5, 2) := by decide +kernel
theorem dX9_notched_66 : decode cX9_notched 66 = .ok (.invokevirtual 272, 3) := by decide +kernel
theorem dX9_notched_69 : decode cX9_notched 69 = .ok (.ireturn, 1) := by decide +kernel
theorem dX9_notch_0 : decode cX9_notch 0 = .ok (.aload_n 0, 1) := by decide +kernel
theorem dX9_notch_1 : decode cX9_notch 1 = .ok (.iload_n 1, 1) := by decide +kernel
theorem dX9_notch_2 : decode cX9_notch 2 = .ok (.invokevirtual 140, 3) := by decide +kernel
theorem dX9_notch_5 : decode cX9_notch 5 = .ok (.ifCond .eq 21, 3) := by decide +kernel
theorem dX9_notch_8 : decode cX9_notch 8 = .ok (.iload_n 2, 1) := by decide +kernel
theorem dX9_notch_9 : decode cX9_notch 9 = .ok (.invokestatic 172, 3) := by decide +kernel
theorem dX9_notch_12 : decode cX9_notch 12 = .ok (.ifCond .eq 14, 3) := by decide +kernel
theorem dX9_notch_15 : decode cX9_notch 15 = .ok (.iload 4, 2) := by decide +kernel
theorem dX9_notch_17 : decode cX9_notch 17 = .ok (.ifCond .lt 9, 3) := by decide +kernel
theorem dX9_notch_20 : decode cX9_notch 20 = .ok (.iload 4, 2) := by decide +kernel
theorem dX9_notch_22 : decode cX9_notch 22 = .ok (.iconst 1, 1) := by decide +kernel
theorem dX9_notch_23 : decode cX9_notch 23 = .ok (.if_icmp .le 10, 3) := by decide +kernel
theorem dX9_notch_26 : decode cX9_notch 26 = .ok (.aload_n 0, 1) := by decide +kernel
theorem dX9_notch_27 : decode cX9_notch 27 = .ok (.bipush (-2), 2) := by decide +kernel
theorem dX9_notch_29 : decode cX9_notch 29 = .ok (.invokevirtual 59, 3) := by decide +kernel
theorem dX9_notch_32 : decode cX9_notch 32 = .ok (.ireturn, 1) := by decide +kernel
theorem dX9_notch_33 : decode cX9_notch 33 = .ok (.aload_n 0, 1) := by decide +kernel
theorem dX9_notch_34 : decode cX9_notch 34 = .ok (.getfield 47, 3) := by decide +kernel
theorem dX9_notch_37 : decode cX9_notch 37 = .ok (.aload_n 0, 1) := by decide +kernel
theorem dX9_notch_38 : decode cX9_notch 38 = .ok (.getfield 19, 3) := by decide +kernel
theorem dX9_notch_41 : decode cX9_notch 41 = .ok (.getfield 94, 3) := by decide +kernel
theorem dX9_notch_44 : decode cX9_notch 44 = .ok (.iload_n 1, 1) := by decide +kernel
theorem dX9_notch_45 : decode cX9_notch 45 = .ok (.aaload, 1) := by decide +kernel
theorem dX9_notch_46 : decode cX9_notch 46 = .ok (.invokevirtual 101, 3) := by decide +kernel
theorem dX9_notch_49 : decode cX9_notch 49 = .ok (.iconst 0, 1) := by decide +kernel
theorem dX9_notch_50 : decode cX9_notch 50 = .ok (.istore 5, 2) := by decide +kernel
theorem dX9_notch_52 : decode cX9_notch 52 = .ok (.iload 5, 2) := by decide +kernel
theorem dX9_notch_54 : decode cX9_notch 54 = .ok (.bipush 99, 2) := by decide +kernel
theorem dX9_notch_56 : decode cX9_notch 56 = .ok (.if_icmp .gt 57, 3) := by decide +kernel
theorem dX9_notch_59 : decode cX9_notch 59 = .ok (.iconst 0, 1) := by decide +kernel
theorem dX9_notch_60 : decode cX9_notch 60 = .ok (.istore 6, 2) := by decide +kernel
theorem dX9_notch_62 : decode cX9_notch 62 = .ok (.iload 6, 2) := by decide +kernel
theorem dX9_notch_64 : decode cX9_notch 64 = .ok (.aload_n 0, 1) := by decide +kernel
theorem dX9_notch_65 : decode cX9_notch 65 = .ok (.getfield 47, 3) := by decide +kernel
theorem dX9_notch_68 : decode cX9_notch 68 = .ok (.getfield 144, 3) := by decide +kernel
theorem dX9_notch_71 : decode cX9_notch 71 = .ok (.if_icmp .ge 36, 3) := by decide +kernel
theorem dX9_notch_74 : decode cX9_notch 74 = .ok (.aload_n 0, 1) := by decide +kernel
theorem dX9_notch_75 : decode cX9_notch 75 = .ok (.iload_n 2, 1) := by decide +kernel
theorem dX9_notch_76 : decode cX9_notch 76 = .ok (.iload_n 3, 1) := by decide +kernel
theorem dX9_notch_77 : decode cX9_notch 77 = .ok (.iload 6, 2) := by decide +kernel
theorem dX9_notch_79 : decode cX9_notch 79 = .ok (.iload 5, 2) := by decide +kernel
theorem dX9_notch_81 : decode cX9_notch 81 = .ok (.invokevirtual 272, 3) := by decide +kernel
theorem dX9_notch_84 : decode cX9_notch 84 = .ok (.iconst 2, 1) := by decide +kernel
theorem dX9_notch_85 : decode cX9_notch 85 = .ok (.if_icmp .ne 16, 3) := by decide +kernel
theorem dX9_notch_88 : decode cX9_notch 88 = .ok (.iload 4, 2) := by decide +kernel
theorem dX9_notch_90 : decode cX9_notch 90 = .ok (.ifCond .ne 8, 3) := by decide +kernel
theorem dX9_notch_93 : decode cX9_notch 93 = .ok (.iload 5, 2) := by decide +kernel
theorem dX9_notch_95 : decode cX9_notch 95 = .ok (.goto 5, 3) := by decide +kernel
theorem dX9_notch_98 : decode cX9_notch 98 = .ok (.iload 6, 2) := by decide +kernel
theorem dX9_notch_100 : decode cX9_notch 100 = .ok (.ireturn, 1) := by decide +kernel
theorem dX9_notch_101 : decode cX9_notch 101 = .ok (.iinc 6 1, 3) := by decide +kernel
theorem dX9_notch_104 : decode cX9_notch 104 = .ok (.goto (-42), 3) := by decide +kernel
theorem dX9_notch_107 : decode cX9_notch 107 = .ok (.iinc 5 1, 3) := by decide +kernel
theorem dX9_notch_110 : decode cX9_notch 110 = .ok (.goto (-58), 3) := by decide +kernel
theorem dX9_notch_113 : decode cX9_notch 113 = .ok (.iconst (-1), 1) := by decide +kernel
theorem dX9_notch_114 : decode cX9_notch 114 = .ok (.ireturn, 1) := by decide +kernel
theorem dX9_piecesNotched_0 : decode cX9_piecesNotched 0 = .ok (.aload_n 0, 1) := by decide +kernel
theorem dX9_piecesNotched_1 : decode cX9_piecesNotched 1 = .ok (.getfield 47, 3) := by decide +kernel
theorem dX9_piecesNotched_4 : decode cX9_piecesNotched 4 = .ok (.getfield 159, 3) := by decide +kernel
theorem dX9_piecesNotched_7 : decode cX9_piecesNotched 7 = .ok (.iload_n 3, 1) := by decide +kernel
theorem dX9_piecesNotched_8 : decode cX9_piecesNotched 8 = .ok (.iaload, 1) := by decide +kernel
theorem dX9_piecesNotched_9 : decode cX9_piecesNotched 9 = .ok (.istore 5, 2) := by decide +kernel
theorem dX9_piecesNotched_11 : decode cX9_piecesNotched 11 = .ok (.aload_n 0, 1) := by decide +kernel
theorem dX9_piecesNotched_12 : decode cX9_piecesNotched 12 = .ok (.getfield 47, 3) := by decide +kernel
theorem dX9_piecesNotched_15 : decode cX9_piecesNotched 15 = .ok (.getfield 159, 3) := by decide +kernel
theorem dX9_piecesNotched_18 : decode cX9_piecesNotched 18 = .ok (.iload_n 3, 1) := by decide +kernel
theorem dX9_piecesNotched_19 : decode cX9_piecesNotched 19 = .ok (.iload 4, 2) := by decide +kernel
theorem dX9_piecesNotched_21 : decode cX9_piecesNotched 21 = .ok (.iastore, 1) := by decide +kernel
theorem dX9_piecesNotched_22 : decode cX9_piecesNotched 22 = .ok (.aload_n 0, 1) := by decide +kernel
theorem dX9_piecesNotched_23 : decode cX9_piecesNotched 23 = .ok (.getfield 40, 3) := by decide +kernel
theorem dX9_piecesNotched_26 : decode cX9_piecesNotched 26 = .ok (.aload_n 0, 1) := by decide +kernel
theorem dX9_piecesNotched_27 : decode cX9_piecesNotched 27 = .ok (.getfield 47, 3) := by decide +kernel
theorem dX9_piecesNotched_30 : decode cX9_piecesNotched 30 = .ok (.aload_n 0, 1) := by decide +kernel
theorem dX9_piecesNotched_31 : decode cX9_piecesNotched 31 = .ok (.getfield 19, 3) := by decide +kernel
theorem dX9_piecesNotched_34 : decode cX9_piecesNotched 34 = .ok (.getfield 117, 3) := by decide +kernel
theorem dX9_piecesNotched_37 : decode cX9_piecesNotched 37 = .ok (.iload_n 2, 1) := by decide +kernel
theorem dX9_piecesNotched_38 : decode cX9_piecesNotched 38 = .ok (.invokevirtual 230, 3) := by decide +kernel
theorem dX9_piecesNotched_41 : decode cX9_piecesNotched 41 = .ok (.aload_n 0, 1) := by decide +kernel
theorem dX9_piecesNotched_42 : decode cX9_piecesNotched 42 = .ok (.getfield 47, 3) := by decide +kernel
theorem dX9_piecesNotched_45 : decode cX9_piecesNotched 45 = .ok (.getfield 159, 3) := by decide +kernel
theorem dX9_piecesNotched_48 : decode cX9_piecesNotched 48 = .ok (.iload_n 3, 1) := by decide +kernel
theorem dX9_piecesNotched_49 : decode cX9_piecesNotched 49 = .ok (.iload 5, 2) := by decide +kernel
theorem dX9_piecesNotched_51 : decode cX9_piecesNotched 51 = .ok (.iastore, 1) := by decide +kernel
theorem dX9_piecesNotched_52 : decode cX9_piecesNotched 52 = .ok (.aload_n 0, 1) := by decide +kernel
theorem dX9_piecesNotched_53 : decode cX9_piecesNotched 53 = .ok (.getfield 40, 3) := by decide +kernel
theorem dX9_piecesNotched_56 : decode cX9_piecesNotched 56 = .ok (.aload_n 0, 1) := by decide +kernel
theorem dX9_piecesNotched_57 : decode cX9_piecesNotched 57 = .ok (.getfield 19, 3) := by decide +kernel
theorem dX9_piecesNotched_60 : decode cX9_piecesNotched 60 = .ok (.getfield 105, 3) := by decide +kernel
theorem dX9_piecesNotched_63 : decode cX9_piecesNotched 63 = .ok (.iload_n 1, 1) := by decide +kernel
theorem dX9_piecesNotched_64 : decode cX9_piecesNotched 64 = .ok (.aaload, 1) := by decide +kernel
theorem dX9_piecesNotched_65 : decode cX9_piecesNotched 65 = .ok (.iconst 1, 1) := by decide +kernel
theorem dX9_piecesNotched_66 : decode cX9_piecesNotched 66 = .ok (.invokevirtual 234, 3) := by decide +kernel
theorem dX9_piecesNotched_69 : decode cX9_piecesNotched 69 = .ok (.aload_n 0, 1) := by decide +kernel
theorem dX9_piecesNotched_70 : decode cX9_piecesNotched 70 = .ok (.getfield 40, 3) := by decide +kernel
theorem dX9_piecesNotched_73 : decode cX9_piecesNotched 73 = .ok (.iconst 0, 1) := by decide +kernel
theorem dX9_piecesNotched_74 : decode cX9_piecesNotched 74 = .ok (.iconst 0, 1) := by decide +kernel
theorem dX9_piecesNotched_75 : decode cX9_piecesNotched 75 = .ok (.invokevirtual 238, 3) := by decide +kernel
theorem dX9_piecesNotched_78 : decode cX9_piecesNotched 78 = .ok (.ireturn, 1) := by decide +kernel
theorem dX9_longer_0 : decode cX9_longer 0 = .ok (.aload_n 0, 1) := by decide +kernel
theorem dX9_longer_1 : decode cX9_longer 1 = .ok (.iload_n 1, 1) := by decide +kernel
theorem dX9_longer_2 : decode cX9_longer 2 = .ok (.invokevirtual 140, 3) := by decide +kernel
theorem dX9_longer_5 : decode cX9_longer 5 = .ok (.ifCond .eq 10, 3) := by decide +kernel
theorem dX9_longer_8 : decode cX9_longer 8 = .ok (.iload_n 2, 1) := by decide +kernel
theorem dX9_longer_9 : decode cX9_longer 9 = .ok (.invokestatic 172, 3) := by decide +kernel
theorem dX9_longer_12 : decode cX9_longer 12 = .ok (.ifCond .ne 10, 3) := by decide +kernel
theorem dX9_longer_15 : decode cX9_longer 15 = .ok (.aload_n 0, 1) := by decide +kernel
theorem dX9_longer_16 : decode cX9_longer 16 = .ok (.bipush (-2), 2) := by decide +kernel
theorem dX9_longer_18 : decode cX9_longer 18 = .ok (.invokevirtual 59, 3) := by decide +kernel
theorem dX9_longer_21 : decode cX9_longer 21 = .ok (.ireturn, 1) := by decide +kernel
theorem dX9_longer_22 : decode cX9_longer 22 = .ok (.iload 4, 2) := by decide +kernel
theorem dX9_longer_24 : decode cX9_longer 24 = .ok (.iconst 3, 1) := by decide +kernel
theorem dX9_longer_25 : decode cX9_longer 25 = .ok (.if_icmp .lt 10, 3) := by decide +kernel
theorem dX9_longer_28 : decode cX9_longer 28 = .ok (.iload 4, 2) := by decide +kernel
theorem dX9_longer_30 : decode cX9_longer 30 = .ok (.bipush 60, 2) := by decide +kernel
theorem dX9_longer_32 : decode cX9_longer 32 = .ok (.if_icmp .le 10, 3) := by decide +kernel
theorem dX9_longer_35 : decode cX9_longer 35 = .ok (.aload_n 0, 1) := by decide +kernel
theorem dX9_longer_36 : decode cX9_longer 36 = .ok (.bipush (-3), 2) := by decide +kernel
theorem dX9_longer_38 : decode cX9_longer 38 = .ok (.invokevirtual 59, 3) := by decide +kernel
theorem dX9_longer_41 : decode cX9_longer 41 = .ok (.ireturn, 1) := by decide +kernel
theorem dX9_longer_42 : decode cX9_longer 42 = .ok (.aload_n 0, 1) := by decide +kernel
theorem dX9_longer_43 : decode cX9_longer 43 = .ok (.getfield 47, 3) := by decide +kernel
theorem dX9_longer_46 : decode cX9_longer 46 = .ok (.iload 4, 2) := by decide +kernel
theorem dX9_longer_48 : decode cX9_longer 48 = .ok (.invokevirtual 275, 3) := by decide +kernel
theorem dX9_longer_51 : decode cX9_longer 51 = .ok (.aload_n 0, 1) := by decide +kernel
theorem dX9_longer_52 : decode cX9_longer 52 = .ok (.getfield 47, 3) := by decide +kernel
theorem dX9_longer_55 : decode cX9_longer 55 = .ok (.aload_n 0, 1) := by decide +kernel
theorem dX9_longer_56 : decode cX9_longer 56 = .ok (.getfield 19, 3) := by decide +kernel
theorem dX9_longer_59 : decode cX9_longer 59 = .ok (.getfield 94, 3) := by decide +kernel
theorem dX9_longer_62 : decode cX9_longer 62 = .ok (.iload_n 1, 1) := by decide +kernel
theorem dX9_longer_63 : decode cX9_longer 63 = .ok (.aaload, 1) := by decide +kernel
theorem dX9_longer_64 : decode cX9_longer 64 = .ok (.getfield 147, 3) := by decide +kernel
theorem dX9_longer_67 : decode cX9_longer 67 = .ok (.putfield 147, 3) := by decide +kernel
theorem dX9_longer_70 : decode cX9_longer 70 = .ok (.iconst 0, 1) := by decide +kernel
theorem dX9_longer_71 : decode cX9_longer 71 = .ok (.istore 5, 2) := by decide +kernel
theorem dX9_longer_73 : decode cX9_longer 73 = .ok (.iload 5, 2) := by decide +kernel
theorem dX9_longer_75 : decode cX9_longer 75 = .ok (.iload 4, 2) := by decide +kernel
theorem dX9_longer_77 : decode cX9_longer 77 = .ok (.if_icmp .ge 28, 3) := by decide +kernel
theorem dX9_longer_80 : decode cX9_longer 80 = .ok (.aload_n 0, 1) := by decide +kernel
theorem dX9_longer_81 : decode cX9_longer 81 = .ok (.getfield 47, 3) := by decide +kernel
theorem dX9_longer_84 : decode cX9_longer 84 = .ok (.iload 5, 2) := by decide +kernel
theorem dX9_longer_86 : decode cX9_longer 86 = .ok (.aload_n 0, 1) := by decide +kernel
theorem dX9_longer_87 : decode cX9_longer 87 = .ok (.getfield 19, 3) := by decide +kernel
theorem dX9_longer_90 : decode cX9_longer 90 = .ok (.getfield 94, 3) := by decide +kernel
theorem dX9_longer_93 : decode cX9_longer 93 = .ok (.iload_n 1, 1) := by decide +kernel
theorem dX9_longer_94 : decode cX9_longer 94 = .ok (.aaload, 1) := by decide +kernel
theorem dX9_longer_95 : decode cX9_longer 95 = .ok (.iconst 0, 1) := by decide +kernel
theorem dX9_longer_96 : decode cX9_longer 96 = .ok (.invokevirtual 276, 3) := by decide +kernel
theorem dX9_longer_99 : decode cX9_longer 99 = .ok (.iinc 5 1, 3) := by decide +kernel
theorem dX9_longer_102 : decode cX9_longer 102 = .ok (.goto (-29), 3) := by decide +kernel
theorem dX9_longer_105 : decode cX9_longer 105 = .ok (.aload_n 0, 1) := by decide +kernel
theorem dX9_longer_106 : decode cX9_longer 106 = .ok (.getfield 40, 3) := by decide +kernel
theorem dX9_longer_109 : decode cX9_longer 109 = .ok (.aload_n 0, 1) := by decide +kernel
theorem dX9_longer_110 : decode cX9_longer 110 = .ok (.getfield 47, 3) := by decide +kernel
theorem dX9_longer_113 : decode cX9_longer 113 = .ok (.aload_n 0, 1) := by decide +kernel
theorem dX9_longer_114 : decode cX9_longer 114 = .ok (.getfield 19, 3) := by decide +kernel
theorem dX9_longer_117 : decode cX9_longer 117 = .ok (.getfield 105, 3) := by decide +kernel
theorem dX9_longer_120 : decode cX9_longer 120 = .ok (.iload_n 2, 1) := by decide +kernel
theorem dX9_longer_121 : decode cX9_longer 121 = .ok (.aaload, 1) := by decide +kernel
theorem dX9_longer_122 : decode cX9_longer 122 = .ok (.aload_n 0, 1) := by decide +kernel
theorem dX9_longer_123 : decode cX9_longer 123 = .ok (.getfield 19, 3) := by decide +kernel
theorem dX9_longer_126 : decode cX9_longer 126 = .ok (.getfield 117, 3) := by decide +kernel
theorem dX9_longer_129 : decode cX9_longer 129 = .ok (.iload_n 3, 1) := by decide +kernel
theorem dX9_longer_130 : decode cX9_longer 130 = .ok (.invokevirtual 182, 3) := by decide +kernel
theorem dX9_longer_133 : decode cX9_longer 133 = .ok (.ireturn, 1) := by decide +kernel
theorem dX9_thinner_0 : decode cX9_thinner 0 = .ok (.aload_n 0, 1) := by decide +kernel
theorem dX9_thinner_1 : decode cX9_thinner 1 = .ok (.iload_n 1, 1) := by decide +kernel
theorem dX9_thinner_2 : decode cX9_thinner 2 = .ok (.invokevirtual 140, 3) := by decide +kernel
theorem dX9_thinner_5 : decode cX9_thinner 5 = .ok (.ifCond .eq 10, 3) := by decide +kernel
theorem dX9_thinner_8 : decode cX9_thinner 8 = .ok (.iload_n 2, 1) := by decide +kernel
theorem dX9_thinner_9 : decode cX9_thinner 9 = .ok (.invokestatic 172, 3) := by decide +kernel
theorem dX9_thinner_12 : decode cX9_thinner 12 = .ok (.ifCond .ne 10, 3) := by decide +kernel
theorem dX9_thinner_15 : decode cX9_thinner 15 = .ok (.aload_n 0, 1) := by decide +kernel
theorem dX9_thinner_16 : decode cX9_thinner 16 = .ok (.bipush (-2), 2) := by decide +kernel
theorem dX9_thinner_18 : decode cX9_thinner 18 = .ok (.invokevirtual 59, 3) := by decide +kernel
theorem dX9_thinner_21 : decode cX9_thinner 21 = .ok (.ireturn, 1) := by decide +kernel
theorem dX9_thinner_22 : decode cX9_thinner 22 = .ok (.iload 4, 2) := by decide +kernel
theorem dX9_thinner_24 : decode cX9_thinner 24 = .ok (.iconst 1, 1) := by decide +kernel
theorem dX9_thinner_25 : decode cX9_thinner 25 = .ok (.if_icmp .lt 10, 3) := by decide +kernel
theorem dX9_thinner_28 : decode cX9_thinner 28 = .ok (.iload 4, 2) := by decide +kernel
theorem dX9_thinner_30 : decode cX9_thinner 30 = .ok (.bipush 100, 2) := by decide +kernel
theorem dX9_thinner_32 : decode cX9_thinner 32 = .ok (.if_icmp .le 10, 3) := by decide +kernel
theorem dX9_thinner_35 : decode cX9_thinner 35 = .ok (.aload_n 0, 1) := by decide +kernel
theorem dX9_thinner_36 : decode cX9_thinner 36 = .ok (.bipush (-3), 2) := by decide +kernel
theorem dX9_thinner_38 : decode cX9_thinner 38 = .ok (.invokevirtual 59, 3) := by decide +kernel
theorem dX9_thinner_41 : decode cX9_thinner 41 = .ok (.ireturn, 1) := by decide +kernel
theorem dX9_thinner_42 : decode cX9_thinner 42 = .ok (.aload_n 0, 1) := by decide +kernel
theorem dX9_thinner_43 : decode cX9_thinner 43 = .ok (.getfield 47, 3) := by decide +kernel
theorem dX9_thinner_46 : decode cX9_thinner 46 = .ok (.aload_n 0, 1) := by decide +kernel
theorem dX9_thinner_47 : decode cX9_thinner 47 = .ok (.getfield 19, 3) := by decide +kernel
theorem dX9_thinner_50 : decode cX9_thinner 50 = .ok (.getfield 94, 3) := by decide +kernel
theorem dX9_thinner_53 : decode cX9_thinner 53 = .ok (.iload_n 1, 1) := by decide +kernel
theorem dX9_thinner_54 : decode cX9_thinner 54 = .ok (.aaload, 1) := by decide +kernel
theorem dX9_thinner_55 : decode cX9_thinner 55 = .ok (.invokevirtual 101, 3) := by decide +kernel
theorem dX9_thinner_58 : decode cX9_thinner 58 = .ok (.iconst 0, 1) := by decide +kernel
theorem dX9_thinner_59 : decode cX9_thinner 59 = .ok (.istore 5, 2) := by decide +kernel
theorem dX9_thinner_61 : decode cX9_thinner 61 = .ok (.iload 5, 2) := by decide +kernel
theorem dX9_thinner_63 : decode cX9_thinner 63 = .ok (.aload_n 0, 1) := by decide +kernel
theorem dX9_thinner_64 : decode cX9_thinner 64 = .ok (.getfield 47, 3) := by decide +kernel
theorem dX9_thinner_67 : decode cX9_thinner 67 = .ok (.getfield 144, 3) := by decide +kernel
theorem dX9_thinner_70 : decode cX9_thinner 70 = .ok (.if_icmp .ge 69, 3) := by decide +kernel
theorem dX9_thinner_73 : decode cX9_thinner 73 = .ok (.aload_n 0, 1) := by decide +kernel
theorem dX9_thinner_74 : decode cX9_thinner 74 = .ok (.getfield 47, 3) := by decide +kernel
theorem dX9_thinner_77 : decode cX9_thinner 77 = .ok (.getfield 153, 3) := by decide +kernel
theorem dX9_thinner_80 : decode cX9_thinner 80 = .ok (.iload 5, 2) := by decide +kernel
theorem dX9_thinner_82 : decode cX9_thinner 82 = .ok (.iconst 1, 1) := by decide +kernel
theorem dX9_thinner_83 : decode cX9_thinner 83 = .ok (.aload_n 0, 1) := by decide +kernel
theorem dX9_thinner_84 : decode cX9_thinner 84 = .ok (.getfield 47, 3) := by decide +kernel
theorem dX9_thinner_87 : decode cX9_thinner 87 = .ok (.getfield 153, 3) := by decide +kernel
theorem dX9_thinner_90 : decode cX9_thinner 90 = .ok (.iload 5, 2) := by decide +kernel
theorem dX9_thinner_92 : decode cX9_thinner 92 = .ok (.iaload, 1) := by decide +kernel
theorem dX9_thinner_93 : decode cX9_thinner 93 = .ok (.iload 4, 2) := by decide +kernel
theorem dX9_thinner_95 : decode cX9_thinner 95 = .ok (.imul, 1) := by decide +kernel
theorem dX9_thinner_96 : decode cX9_thinner 96 = .ok (.bipush 100, 2) := by decide +kernel
theorem dX9_thinner_98 : decode cX9_thinner 98 = .ok (.idiv, 1) := by decide +kernel
theorem dX9_thinner_99 : decode cX9_thinner 99 = .ok (.invokestatic 280, 3) := by decide +kernel
theorem dX9_thinner_102 : decode cX9_thinner 102 = .ok (.iastore, 1) := by decide +kernel
theorem dX9_thinner_103 : decode cX9_thinner 103 = .ok (.aload_n 0, 1) := by decide +kernel
theorem dX9_thinner_104 : decode cX9_thinner 104 = .ok (.getfield 47, 3) := by decide +kernel
theorem dX9_thinner_107 : decode cX9_thinner 107 = .ok (.getfield 156, 3) := by decide +kernel
theorem dX9_thinner_110 : decode cX9_thinner 110 = .ok (.iload 5, 2) := by decide +kernel
theorem dX9_thinner_112 : decode cX9_thinner 112 = .ok (.iconst 1, 1) := by decide +kernel
theorem dX9_thinner_113 : decode cX9_thinner 113 = .ok (.aload_n 0, 1) := by decide +kernel
theorem dX9_thinner_114 : decode cX9_thinner 114 = .ok (.getfield 47, 3) := by decide +kernel
theorem dX9_thinner_117 : decode cX9_thinner 117 = .ok (.getfield 156, 3) := by decide +kernel
theorem dX9_thinner_120 : decode cX9_thinner 120 = .ok (.iload 5, 2) := by decide +kernel
theorem dX9_thinner_122 : decode cX9_thinner 122 = .ok (.iaload, 1) := by decide +kernel
theorem dX9_thinner_123 : decode cX9_thinner 123 = .ok (.iload 4, 2) := by decide +kernel
theorem dX9_thinner_125 : decode cX9_thinner 125 = .ok (.imul, 1) := by decide +kernel
theorem dX9_thinner_126 : decode cX9_thinner 126 = .ok (.bipush 100, 2) := by decide +kernel
theorem dX9_thinner_128 : decode cX9_thinner 128 = .ok (.idiv, 1) := by decide +kernel
theorem dX9_thinner_129 : decode cX9_thinner 129 = .ok (.invokestatic 280, 3) := by decide +kernel
theorem dX9_thinner_132 : decode cX9_thinner 132 = .ok (.iastore, 1) := by decide +kernel
theorem dX9_thinner_133 : decode cX9_thinner 133 = .ok (.iinc 5 1, 3) := by decide +kernel
theorem dX9_thinner_136 : decode cX9_thinner 136 = .ok (.goto (-75), 3) := by decide +kernel
theorem dX9_thinner_139 : decode cX9_thinner 139 = .ok (.aload_n 0, 1) := by decide +kernel
theorem dX9_thinner_140 : decode cX9_thinner 140 = .ok (.getfield 40, 3) := by decide +kernel
theorem dX9_thinner_143 : decode cX9_thinner 143 = .ok (.aload_n 0, 1) := by decide +kernel
theorem dX9_thinner_144 : decode cX9_thinner 144 = .ok (.getfield 47, 3) := by decide +kernel
theorem dX9_thinner_147 : decode cX9_thinner 147 = .ok (.aload_n 0, 1) := by decide +kernel
theorem dX9_thinner_148 : decode cX9_thinner 148 = .ok (.getfield 19, 3) := by decide +kernel
theorem dX9_thinner_151 : decode cX9_thinner 151 = .ok (.getfield 105, 3) := by decide +kernel
theorem dX9_thinner_154 : decode cX9_thinner 154 = .ok (.iload_n 2, 1) := by decide +kernel
theorem dX9_thinner_155 : decode cX9_thinner 155 = .ok (.aaload, 1) := by decide +kernel
theorem dX9_thinner_156 : decode cX9_thinner 156 = .ok (.aload_n 0, 1) := by decide +kernel
theorem dX9_thinner_157 : decode cX9_thinner 157 = .ok (.getfield 19, 3) := by decide +kernel
theorem dX9_thinner_160 : decode cX9_thinner 160 = .ok (.getfield 117, 3) := by decide +kernel
theorem dX9_thinner_163 : decode cX9_thinner 163 = .ok (.iload_n 3, 1) := by decide +kernel
theorem dX9_thinner_164 : decode cX9_thinner 164 = .ok (.invokevirtual 182, 3) := by decide +kernel
theorem dX9_thinner_167 : decode cX9_thinner 167 = .ok (.ireturn, 1) := by decide +kernel
theorem dX9_beside_0 : decode cX9_beside 0 = .ok (.aload_n 0, 1) := by decide +kernel
theorem dX9_beside_1 : decode cX9_beside 1 = .ok (.iload_n 1, 1) := by decide +kernel
theorem dX9_beside_2 : decode cX9_beside 2 = .ok (.invokevirtual 140, 3) := by decide +kernel
theorem dX9_beside_5 : decode cX9_beside 5 = .ok (.ifCond .eq 18, 3) := by decide +kernel
theorem dX9_beside_8 : decode cX9_beside 8 = .ok (.aload_n 0, 1) := by decide +kernel
theorem dX9_beside_9 : decode cX9_beside 9 = .ok (.iload_n 2, 1) := by decide +kernel
theorem dX9_beside_10 : decode cX9_beside 10 = .ok (.invokevirtual 140, 3) := by decide +kernel
theorem dX9_beside_13 : decode cX9_beside 13 = .ok (.ifCond .eq 10, 3) := by decide +kernel
theorem dX9_beside_16 : decode cX9_beside 16 = .ok (.iload_n 3, 1) := by decide +kernel
theorem dX9_beside_17 : decode cX9_beside 17 = .ok (.invokestatic 172, 3) := by decide +kernel
theorem dX9_beside_20 : decode cX9_beside 20 = .ok (.ifCond .ne 10, 3) := by decide +kernel
theorem dX9_beside_23 : decode cX9_beside 23 = .ok (.aload_n 0, 1) := by decide +kernel
theorem dX9_beside_24 : decode cX9_beside 24 = .ok (.bipush (-2), 2) := by decide +kernel
theorem dX9_beside_26 : decode cX9_beside 26 = .ok (.invokevirtual 59, 3) := by decide +kernel
theorem dX9_beside_29 : decode cX9_beside 29 = .ok (.ireturn, 1) := by decide +kernel
theorem dX9_beside_30 : decode cX9_beside 30 = .ok (.iload_n 1, 1) := by decide +kernel
theorem dX9_beside_31 : decode cX9_beside 31 = .ok (.iload_n 2, 1) := by decide +kernel
theorem dX9_beside_32 : decode cX9_beside 32 = .ok (.if_icmp .eq 30, 3) := by decide +kernel
theorem dX9_beside_35 : decode cX9_beside 35 = .ok (.aload_n 0, 1) := by decide +kernel
theorem dX9_beside_36 : decode cX9_beside 36 = .ok (.getfield 19, 3) := by decide +kernel
theorem dX9_beside_39 : decode cX9_beside 39 = .ok (.getfield 94, 3) := by decide +kernel
theorem dX9_beside_42 : decode cX9_beside 42 = .ok (.iload_n 1, 1) := by decide +kernel
theorem dX9_beside_43 : decode cX9_beside 43 = .ok (.aaload, 1) := by decide +kernel
theorem dX9_beside_44 : decode cX9_beside 44 = .ok (.getfield 144, 3) := by decide +kernel
theorem dX9_beside_47 : decode cX9_beside 47 = .ok (.aload_n 0, 1) := by decide +kernel
theorem dX9_beside_48 : decode cX9_beside 48 = .ok (.getfield 19, 3) := by decide +kernel
theorem dX9_beside_51 : decode cX9_beside 51 = .ok (.getfield 94, 3) := by decide +kernel
theorem dX9_beside_54 : decode cX9_beside 54 = .ok (.iload_n 2, 1) := by decide +kernel
theorem dX9_beside_55 : decode cX9_beside 55 = .ok (.aaload, 1) := by decide +kernel
theorem dX9_beside_56 : decode cX9_beside 56 = .ok (.getfield 144, 3) := by decide +kernel
theorem dX9_beside_59 : decode cX9_beside 59 = .ok (.if_icmp .eq 10, 3) := by decide +kernel
theorem dX9_beside_62 : decode cX9_beside 62 = .ok (.aload_n 0, 1) := by decide +kernel
theorem dX9_beside_63 : decode cX9_beside 63 = .ok (.bipush (-3), 2) := by decide +kernel
theorem dX9_beside_65 : decode cX9_beside 65 = .ok (.invokevirtual 59, 3) := by decide +kernel
theorem dX9_beside_68 : decode cX9_beside 68 = .ok (.ireturn, 1) := by decide +kernel
theorem dX9_beside_69 : decode cX9_beside 69 = .ok (.aload_n 0, 1) := by decide +kernel
theorem dX9_beside_70 : decode cX9_beside 70 = .ok (.iload_n 1, 1) := by decide +kernel
theorem dX9_beside_71 : decode cX9_beside 71 = .ok (.iload_n 2, 1) := by decide +kernel
theorem dX9_beside_72 : decode cX9_beside 72 = .ok (.iload_n 3, 1) := by decide +kernel
theorem dX9_beside_73 : decode cX9_beside 73 = .ok (.iload 4, 2) := by decide +kernel
theorem dX9_beside_75 : decode cX9_beside 75 = .ok (.invokevirtual 283, 3) := by decide +kernel
theorem dX9_beside_78 : decode cX9_beside 78 = .ok (.aload_n 0, 1) := by decide +kernel
theorem dX9_beside_79 : decode cX9_beside 79 = .ok (.iload_n 2, 1) := by decide +kernel
theorem dX9_beside_80 : decode cX9_beside 80 = .ok (.iload_n 1, 1) := by decide +kernel
theorem dX9_beside_81 : decode cX9_beside 81 = .ok (.iload_n 3, 1) := by decide +kernel
theorem dX9_beside_82 : decode cX9_beside 82 = .ok (.iload 4, 2) := by decide +kernel
theorem dX9_beside_84 : decode cX9_beside 84 = .ok (.invokevirtual 283, 3) := by decide +kernel
theorem dX9_beside_87 : decode cX9_beside 87 = .ok (.iadd, 1) := by decide +kernel
theorem dX9_beside_88 : decode cX9_beside 88 = .ok (.ireturn, 1) := by decide +kernel
theorem dX9_piecesStiffened_0 : decode cX9_piecesStiffened 0 = .ok (.aload_n 0, 1) := by decide +kernel
theorem dX9_piecesStiffened_1 : decode cX9_piecesStiffened 1 = .ok (.getfield 47, 3) := by decide +kernel
theorem dX9_piecesStiffened_4 : decode cX9_piecesStiffened 4 = .ok (.aload_n 0, 1) := by decide +kernel
theorem dX9_piecesStiffened_5 : decode cX9_piecesStiffened 5 = .ok (.getfield 19, 3) := by decide +kernel
theorem dX9_piecesStiffened_8 : decode cX9_piecesStiffened 8 = .ok (.getfield 94, 3) := by decide +kernel
theorem dX9_piecesStiffened_11 : decode cX9_piecesStiffened 11 = .ok (.iload_n 1, 1) := by decide +kernel
theorem dX9_piecesStiffened_12 : decode cX9_piecesStiffened 12 = .ok (.aaload, 1) := by decide +kernel
theorem dX9_piecesStiffened_13 : decode cX9_piecesStiffened 13 = .ok (.invokevirtual 101, 3) := by decide +kernel
theorem dX9_piecesStiffened_16 : decode cX9_piecesStiffened 16 = .ok (.iconst 0, 1) := by decide +kernel
theorem dX9_piecesStiffened_17 : decode cX9_piecesStiffened 17 = .ok (.istore 5, 2) := by decide +kernel
theorem dX9_piecesStiffened_19 : decode cX9_piecesStiffened 19 = .ok (.iload 5, 2) := by decide +kernel
theorem dX9_piecesStiffened_21 : decode cX9_piecesStiffened 21 = .ok (.aload_n 0, 1) := by decide +kernel
theorem dX9_piecesStiffened_22 : decode cX9_piecesStiffened 22 = .ok (.getfield 47, 3) := by decide +kernel
theorem dX9_piecesStiffened_25 : decode cX9_piecesStiffened 25 = .ok (.getfield 144, 3) := by decide +kernel
theorem dX9_piecesStiffened_28 : decode cX9_piecesStiffened 28 = .ok (.if_icmp .ge 37, 3) := by decide +kernel
theorem dX9_piecesStiffened_31 : decode cX9_piecesStiffened 31 = .ok (.aload_n 0, 1) := by decide +kernel
theorem dX9_piecesStiffened_32 : decode cX9_piecesStiffened 32 = .ok (.getfield 47, 3) := by decide +kernel
theorem dX9_piecesStiffened_35 : decode cX9_piecesStiffened 35 = .ok (.getfield 153, 3) := by decide +kernel
theorem dX9_piecesStiffened_38 : decode cX9_piecesStiffened 38 = .ok (.iload 5, 2) := by decide +kernel
theorem dX9_piecesStiffened_40 : decode cX9_piecesStiffened 40 = .ok (.dup2, 1) := by decide +kernel
theorem dX9_piecesStiffened_41 : decode cX9_piecesStiffened 41 = .ok (.iaload, 1) := by decide +kernel
theorem dX9_piecesStiffened_42 : decode cX9_piecesStiffened 42 = .ok (.aload_n 0, 1) := by decide +kernel
theorem dX9_piecesStiffened_43 : decode cX9_piecesStiffened 43 = .ok (.getfield 19, 3) := by decide +kernel
theorem dX9_piecesStiffened_46 : decode cX9_piecesStiffened 46 = .ok (.getfield 94, 3) := by decide +kernel
theorem dX9_piecesStiffened_49 : decode cX9_piecesStiffened 49 = .ok (.iload_n 2, 1) := by decide +kernel
theorem dX9_piecesStiffened_50 : decode cX9_piecesStiffened 50 = .ok (.aaload, 1) := by decide +kernel
theorem dX9_piecesStiffened_51 : decode cX9_piecesStiffened 51 = .ok (.getfield 153, 3) := by decide +kernel
theorem dX9_piecesStiffened_54 : decode cX9_piecesStiffened 54 = .ok (.iload 5, 2) := by decide +kernel
theorem dX9_piecesStiffened_56 : decode cX9_piecesStiffened 56 = .ok (.iaload, 1) := by decide +kernel
theorem dX9_piecesStiffened_57 : decode cX9_piecesStiffened 57 = .ok (.iadd, 1) := by decide +kernel
theorem dX9_piecesStiffened_58 : decode cX9_piecesStiffened 58 = .ok (.iastore, 1) := by decide +kernel
theorem dX9_piecesStiffened_59 : decode cX9_piecesStiffened 59 = .ok (.iinc 5 1, 3) := by decide +kernel
theorem dX9_piecesStiffened_62 : decode cX9_piecesStiffened 62 = .ok (.goto (-43), 3) := by decide +kernel
theorem dX9_piecesStiffened_65 : decode cX9_piecesStiffened 65 = .ok (.aload_n 0, 1) := by decide +kernel
theorem dX9_piecesStiffened_66 : decode cX9_piecesStiffened 66 = .ok (.getfield 40, 3) := by decide +kernel
theorem dX9_piecesStiffened_69 : decode cX9_piecesStiffened 69 = .ok (.aload_n 0, 1) := by decide +kernel
theorem dX9_piecesStiffened_70 : decode cX9_piecesStiffened 70 = .ok (.getfield 47, 3) := by decide +kernel
theorem dX9_piecesStiffened_73 : decode cX9_piecesStiffened 73 = .ok (.aload_n 0, 1) := by decide +kernel
theorem dX9_piecesStiffened_74 : decode cX9_piecesStiffened 74 = .ok (.getfield 19, 3) := by decide +kernel
theorem dX9_piecesStiffened_77 : decode cX9_piecesStiffened 77 = .ok (.getfield 105, 3) := by decide +kernel
theorem dX9_piecesStiffened_80 : decode cX9_piecesStiffened 80 = .ok (.iload_n 3, 1) := by decide +kernel
theorem dX9_piecesStiffened_81 : decode cX9_piecesStiffened 81 = .ok (.aaload, 1) := by decide +kernel
theorem dX9_piecesStiffened_82 : decode cX9_piecesStiffened 82 = .ok (.aload_n 0, 1) := by decide +kernel
theorem dX9_piecesStiffened_83 : decode cX9_piecesStiffened 83 = .ok (.getfield 19, 3) := by decide +kernel
theorem dX9_piecesStiffened_86 : decode cX9_piecesStiffened 86 = .ok (.getfield 117, 3) := by decide +kernel
theorem dX9_piecesStiffened_89 : decode cX9_piecesStiffened 89 = .ok (.iload 4, 2) := by decide +kernel
theorem dX9_piecesStiffened_91 : decode cX9_piecesStiffened 91 = .ok (.invokevirtual 182, 3) := by decide +kernel
theorem dX9_piecesStiffened_94 : decode cX9_piecesStiffened 94 = .ok (.ireturn, 1) := by decide +kernel
theorem dX9_never_0 : decode cX9_never 0 = .ok (.iload_n 1, 1) := by decide +kernel
theorem dX9_never_1 : decode cX9_never 1 = .ok (.invokestatic 172, 3) := by decide +kernel
theorem dX9_never_4 : decode cX9_never 4 = .ok (.ifCond .ne 10, 3) := by decide +kernel
theorem dX9_never_7 : decode cX9_never 7 = .ok (.aload_n 0, 1) := by decide +kernel
theorem dX9_never_8 : decode cX9_never 8 = .ok (.bipush (-2), 2) := by decide +kernel
theorem dX9_never_10 : decode cX9_never 10 = .ok (.invokevirtual 59, 3) := by decide +kernel
theorem dX9_never_13 : decode cX9_never 13 = .ok (.ireturn, 1) := by decide +kernel
theorem dX9_never_14 : decode cX9_never 14 = .ok (.iload_n 2, 1) := by decide +kernel
theorem dX9_never_15 : decode cX9_never 15 = .ok (.invokestatic 251, 3) := by decide +kernel
theorem dX9_never_18 : decode cX9_never 18 = .ok (.ifCond .ne 10, 3) := by decide +kernel
theorem dX9_never_21 : decode cX9_never 21 = .ok (.aload_n 0, 1) := by decide +kernel
theorem dX9_never_22 : decode cX9_never 22 = .ok (.bipush (-3), 2) := by decide +kernel
theorem dX9_never_24 : decode cX9_never 24 = .ok (.invokevirtual 59, 3) := by decide +kernel
theorem dX9_never_27 : decode cX9_never 27 = .ok (.ireturn, 1) := by decide +kernel
theorem dX9_never_28 : decode cX9_never 28 = .ok (.iconst 0, 1) := by decide +kernel
theorem dX9_never_29 : decode cX9_never 29 = .ok (.istore_n 3, 1) := by decide +kernel
theorem dX9_never_30 : decode cX9_never 30 = .ok (.iconst 0, 1) := by decide +kernel
theorem dX9_never_31 : decode cX9_never 31 = .ok (.istore 4, 2) := by decide +kernel
theorem dX9_never_33 : decode cX9_never 33 = .ok (.iload 4, 2) := by decide +kernel
theorem dX9_never_35 : decode cX9_never 35 = .ok (.iconst 4, 1) := by decide +kernel
theorem dX9_never_36 : decode cX9_never 36 = .ok (.if_icmp .ge 36, 3) := by decide +kernel
theorem dX9_never_39 : decode cX9_never 39 = .ok (.aload_n 0, 1) := by decide +kernel
theorem dX9_never_40 : decode cX9_never 40 = .ok (.iload 4, 2) := by decide +kernel
theorem dX9_never_42 : decode cX9_never 42 = .ok (.invokevirtual 140, 3) := by decide +kernel
theorem dX9_never_45 : decode cX9_never 45 = .ok (.ifCond .eq 21, 3) := by decide +kernel
theorem dX9_never_48 : decode cX9_never 48 = .ok (.aload_n 0, 1) := by decide +kernel
theorem dX9_never_49 : decode cX9_never 49 = .ok (.iload 4, 2) := by decide +kernel
theorem dX9_never_51 : decode cX9_never 51 = .ok (.iload_n 1, 1) := by decide +kernel
theorem dX9_never_52 : decode cX9_never 52 = .ok (.iload_n 2, 1) := by decide +kernel
theorem dX9_never_53 : decode cX9_never 53 = .ok (.invokevirtual 286, 3) := by decide +kernel
theorem dX9_never_56 : decode cX9_never 56 = .ok (.ifCond .eq 10, 3) := by decide +kernel
theorem dX9_never_59 : decode cX9_never 59 = .ok (.iload_n 3, 1) := by decide +kernel
theorem dX9_never_60 : decode cX9_never 60 = .ok (.iconst 1, 1) := by decide +kernel
theorem dX9_never_61 : decode cX9_never 61 = .ok (.iload 4, 2) := by decide +kernel
theorem dX9_never_63 : decode cX9_never 63 = .ok (.ishl, 1) := by decide +kernel
theorem dX9_never_64 : decode cX9_never 64 = .ok (.ior, 1) := by decide +kernel
theorem dX9_never_65 : decode cX9_never 65 = .ok (.istore_n 3, 1) := by decide +kernel
theorem dX9_never_66 : decode cX9_never 66 = .ok (.iinc 4 1, 3) := by decide +kernel
theorem dX9_never_69 : decode cX9_never 69 = .ok (.goto (-36), 3) := by decide +kernel
theorem dX9_never_72 : decode cX9_never 72 = .ok (.iload_n 3, 1) := by decide +kernel
theorem dX9_never_73 : decode cX9_never 73 = .ok (.ireturn, 1) := by decide +kernel
theorem dX9_neverThree_0 : decode cX9_neverThree 0 = .ok (.iconst 1, 1) := by decide +kernel
theorem dX9_neverThree_1 : decode cX9_neverThree 1 = .ok (.istore 4, 2) := by decide +kernel
theorem dX9_neverThree_3 : decode cX9_neverThree 3 = .ok (.iload 4, 2) := by decide +kernel
theorem dX9_neverThree_5 : decode cX9_neverThree 5 = .ok (.iload_n 3, 1) := by decide +kernel
theorem dX9_neverThree_6 : decode cX9_neverThree 6 = .ok (.if_icmp .gt 49, 3) := by decide +kernel
theorem dX9_neverThree_9 : decode cX9_neverThree 9 = .ok (.aload_n 0, 1) := by decide +kernel
theorem dX9_neverThree_10 : decode cX9_neverThree 10 = .ok (.getfield 40, 3) := by decide +kernel
theorem dX9_neverThree_13 : decode cX9_neverThree 13 = .ok (.aload_n 0, 1) := by decide +kernel
theorem dX9_neverThree_14 : decode cX9_neverThree 14 = .ok (.getfield 19, 3) := by decide +kernel
theorem dX9_neverThree_17 : decode cX9_neverThree 17 = .ok (.getfield 94, 3) := by decide +kernel
theorem dX9_neverThree_20 : decode cX9_neverThree 20 = .ok (.iload_n 1, 1) := by decide +kernel
theorem dX9_neverThree_21 : decode cX9_neverThree 21 = .ok (.aaload, 1) := by decide +kernel
theorem dX9_neverThree_22 : decode cX9_neverThree 22 = .ok (.aload_n 0, 1) := by decide +kernel
theorem dX9_neverThree_23 : decode cX9_neverThree 23 = .ok (.getfield 19, 3) := by decide +kernel
theorem dX9_neverThree_26 : decode cX9_neverThree 26 = .ok (.getfield 105, 3) := by decide +kernel
theorem dX9_neverThree_29 : decode cX9_neverThree 29 = .ok (.iload_n 2, 1) := by decide +kernel
theorem dX9_neverThree_30 : decode cX9_neverThree 30 = .ok (.aaload, 1) := by decide +kernel
theorem dX9_neverThree_31 : decode cX9_neverThree 31 = .ok (.aload_n 0, 1) := by decide +kernel
theorem dX9_neverThree_32 : decode cX9_neverThree 32 = .ok (.getfield 19, 3) := by decide +kernel
theorem dX9_neverThree_35 : decode cX9_neverThree 35 = .ok (.getfield 117, 3) := by decide +kernel
theorem dX9_neverThree_38 : decode cX9_neverThree 38 = .ok (.iload 4, 2) := by decide +kernel
theorem dX9_neverThree_40 : decode cX9_neverThree 40 = .ok (.invokevirtual 182, 3) := by decide +kernel
theorem dX9_neverThree_43 : decode cX9_neverThree 43 = .ok (.iconst 3, 1) := by decide +kernel
theorem dX9_neverThree_44 : decode cX9_neverThree 44 = .ok (.if_icmp .lt 5, 3) := by decide +kernel
theorem dX9_neverThree_47 : decode cX9_neverThree 47 = .ok (.iconst 0, 1) := by decide +kernel
theorem dX9_neverThree_48 : decode cX9_neverThree 48 = .ok (.ireturn, 1) := by decide +kernel
theorem dX9_neverThree_49 : decode cX9_neverThree 49 = .ok (.iinc 4 1, 3) := by decide +kernel
theorem dX9_neverThree_52 : decode cX9_neverThree 52 = .ok (.goto (-49), 3) := by decide +kernel
theorem dX9_neverThree_55 : decode cX9_neverThree 55 = .ok (.iconst 1, 1) := by decide +kernel
theorem dX9_neverThree_56 : decode cX9_neverThree 56 = .ok (.ireturn, 1) := by decide +kernel
theorem dX9_read_0 : decode cX9_read 0 = .ok (.aload_n 0, 1) := by decide +kernel
theorem dX9_read_1 : decode cX9_read 1 = .ok (.iload_n 1, 1) := by decide +kernel
theorem dX9_read_2 : decode cX9_read 2 = .ok (.invokevirtual 140, 3) := by decide +kernel
theorem dX9_read_5 : decode cX9_read 5 = .ok (.ifCond .eq 21, 3) := by decide +kernel
theorem dX9_read_8 : decode cX9_read 8 = .ok (.iload_n 2, 1) := by decide +kernel
theorem dX9_read_9 : decode cX9_read 9 = .ok (.invokestatic 220, 3) := by decide +kernel
theorem dX9_read_12 : decode cX9_read 12 = .ok (.ifCond .eq 14, 3) := by decide +kernel
theorem dX9_read_15 : decode cX9_read 15 = .ok (.iload 4, 2) := by decide +kernel
theorem dX9_read_17 : decode cX9_read 17 = .ok (.ifCond .lt 9, 3) := by decide +kernel
theorem dX9_read_20 : decode cX9_read 20 = .ok (.iload 4, 2) := by decide +kernel
theorem dX9_read_22 : decode cX9_read 22 = .ok (.iconst 1, 1) := by decide +kernel
theorem dX9_read_23 : decode cX9_read 23 = .ok (.if_icmp .le 10, 3) := by decide +kernel
theorem dX9_read_26 : decode cX9_read 26 = .ok (.aload_n 0, 1) := by decide +kernel
theorem dX9_read_27 : decode cX9_read 27 = .ok (.bipush (-2), 2) := by decide +kernel
theorem dX9_read_29 : decode cX9_read 29 = .ok (.invokevirtual 59, 3) := by decide +kernel
theorem dX9_read_32 : decode cX9_read 32 = .ok (.ireturn, 1) := by decide +kernel
theorem dX9_read_33 : decode cX9_read 33 = .ok (.iload_n 3, 1) := by decide +kernel
theorem dX9_read_34 : decode cX9_read 34 = .ok (.invokestatic 251, 3) := by decide +kernel
theorem dX9_read_37 : decode cX9_read 37 = .ok (.ifCond .ne 10, 3) := by decide +kernel
theorem dX9_read_40 : decode cX9_read 40 = .ok (.aload_n 0, 1) := by decide +kernel
theorem dX9_read_41 : decode cX9_read 41 = .ok (.bipush (-3), 2) := by decide +kernel
theorem dX9_read_43 : decode cX9_read 43 = .ok (.invokevirtual 59, 3) := by decide +kernel
theorem dX9_read_46 : decode cX9_read 46 = .ok (.ireturn, 1) := by decide +kernel
theorem dX9_read_47 : decode cX9_read 47 = .ok (.aload_n 0, 1) := by decide +kernel
theorem dX9_read_48 : decode cX9_read 48 = .ok (.getfield 29, 3) := by decide +kernel
theorem dX9_read_51 : decode cX9_read 51 = .ok (.iload_n 2, 1) := by decide +kernel
theorem dX9_read_52 : decode cX9_read 52 = .ok (.aaload, 1) := by decide +kernel
theorem dX9_read_53 : decode cX9_read 53 = .ok (.getfield 223, 3) := by decide +kernel
theorem dX9_read_56 : decode cX9_read 56 = .ok (.ifCond .ne 10, 3) := by decide +kernel
theorem dX9_read_59 : decode cX9_read 59 = .ok (.aload_n 0, 1) := by decide +kernel
theorem dX9_read_60 : decode cX9_read 60 = .ok (.bipush (-6), 2) := by decide +kernel
theorem dX9_read_62 : decode cX9_read 62 = .ok (.invokevirtual 59, 3) := by decide +kernel
theorem dX9_read_65 : decode cX9_read 65 = .ok (.ireturn, 1) := by decide +kernel
theorem dX9_read_66 : decode cX9_read 66 = .ok (.iconst 0, 1) := by decide +kernel
theorem dX9_read_67 : decode cX9_read 67 = .ok (.istore 5, 2) := by decide +kernel
theorem dX9_read_69 : decode cX9_read 69 = .ok (.iconst 0, 1) := by decide +kernel
theorem dX9_read_70 : decode cX9_read 70 = .ok (.istore 6, 2) := by decide +kernel
theorem dX9_read_72 : decode cX9_read 72 = .ok (.iconst (-1), 1) := by decide +kernel
theorem dX9_read_73 : decode cX9_read 73 = .ok (.istore 7, 2) := by decide +kernel
theorem dX9_read_75 : decode cX9_read 75 = .ok (.iconst 0, 1) := by decide +kernel
theorem dX9_read_76 : decode cX9_read 76 = .ok (.istore 8, 2) := by decide +kernel
theorem dX9_read_78 : decode cX9_read 78 = .ok (.iload 8, 2) := by decide +kernel
theorem dX9_read_80 : decode cX9_read 80 = .ok (.iconst 4, 1) := by decide +kernel
theorem dX9_read_81 : decode cX9_read 81 = .ok (.if_icmp .ge 43, 3) := by decide +kernel
theorem dX9_read_84 : decode cX9_read 84 = .ok (.aload_n 0, 1) := by decide +kernel
theorem dX9_read_85 : decode cX9_read 85 = .ok (.iload_n 1, 1) := by decide +kernel
theorem dX9_read_86 : decode cX9_read 86 = .ok (.iload 8, 2) := by decide +kernel
theorem dX9_read_88 : decode cX9_read 88 = .ok (.iload_n 2, 1) := by decide +kernel
theorem dX9_read_89 : decode cX9_read 89 = .ok (.iload_n 3, 1) := by decide +kernel
theorem dX9_read_90 : decode cX9_read 90 = .ok (.iconst (-1), 1) := by decide +kernel
theorem dX9_read_91 : decode cX9_read 91 = .ok (.invokevirtual 290, 3) := by decide +kernel
theorem dX9_read_94 : decode cX9_read 94 = .ok (.istore 9, 2) := by decide +kernel
theorem dX9_read_96 : decode cX9_read 96 = .ok (.iload 5, 2) := by decide +kernel
theorem dX9_read_98 : decode cX9_read 98 = .ok (.iload 9, 2) := by decide +kernel
theorem dX9_read_100 : decode cX9_read 100 = .ok (.iadd, 1) := by decide +kernel
theorem dX9_read_101 : decode cX9_read 101 = .ok (.istore 5, 2) := by decide +kernel
theorem dX9_read_103 : decode cX9_read 103 = .ok (.iload 9, 2) := by decide +kernel
theorem dX9_read_105 : decode cX9_read 105 = .ok (.iload 6, 2) := by decide +kernel
theorem dX9_read_107 : decode cX9_read 107 = .ok (.if_icmp .le 11, 3) := by decide +kernel
theorem dX9_read_110 : decode cX9_read 110 = .ok (.iload 9, 2) := by decide +kernel
theorem dX9_read_112 : decode cX9_read 112 = .ok (.istore 6, 2) := by decide +kernel
theorem dX9_read_114 : decode cX9_read 114 = .ok (.iload 8, 2) := by decide +kernel
theorem dX9_read_116 : decode cX9_read 116 = .ok (.istore 7, 2) := by decide +kernel
theorem dX9_read_118 : decode cX9_read 118 = .ok (.iinc 8 1, 3) := by decide +kernel
theorem dX9_read_121 : decode cX9_read 121 = .ok (.goto (-43), 3) := by decide +kernel
theorem dX9_read_124 : decode cX9_read 124 = .ok (.iload 4, 2) := by decide +kernel
theorem dX9_read_126 : decode cX9_read 126 = .ok (.ifCond .ne 8, 3) := by decide +kernel
theorem dX9_read_129 : decode cX9_read 129 = .ok (.iload 5, 2) := by decide +kernel
theorem dX9_read_131 : decode cX9_read 131 = .ok (.goto 5, 3) := by decide +kernel
theorem dX9_read_134 : decode cX9_read 134 = .ok (.iload 7, 2) := by decide +kernel
theorem dX9_read_136 : decode cX9_read 136 = .ok (.ireturn, 1) := by decide +kernel
theorem dX9_was_0 : decode cX9_was 0 = .ok (.aload_n 0, 1) := by decide +kernel
theorem dX9_was_1 : decode cX9_was 1 = .ok (.iload_n 1, 1) := by decide +kernel
theorem dX9_was_2 : decode cX9_was 2 = .ok (.iload 4, 2) := by decide +kernel
theorem dX9_was_4 : decode cX9_was 4 = .ok (.invokevirtual 150, 3) := by decide +kernel
theorem dX9_was_7 : decode cX9_was 7 = .ok (.ifCond .eq 10, 3) := by decide +kernel
theorem dX9_was_10 : decode cX9_was 10 = .ok (.iload_n 2, 1) := by decide +kernel
theorem dX9_was_11 : decode cX9_was 11 = .ok (.invokestatic 220, 3) := by decide +kernel
theorem dX9_was_14 : decode cX9_was 14 = .ok (.ifCond .ne 10, 3) := by decide +kernel
theorem dX9_was_17 : decode cX9_was 17 = .ok (.aload_n 0, 1) := by decide +kernel
theorem dX9_was_18 : decode cX9_was 18 = .ok (.bipush (-2), 2) := by decide +kernel
theorem dX9_was_20 : decode cX9_was 20 = .ok (.invokevirtual 59, 3) := by decide +kernel
theorem dX9_was_23 : decode cX9_was 23 = .ok (.ireturn, 1) := by decide +kernel
theorem dX9_was_24 : decode cX9_was 24 = .ok (.iload_n 3, 1) := by decide +kernel
theorem dX9_was_25 : decode cX9_was 25 = .ok (.invokestatic 251, 3) := by decide +kernel
theorem dX9_was_28 : decode cX9_was 28 = .ok (.ifCond .ne 10, 3) := by decide +kernel
theorem dX9_was_31 : decode cX9_was 31 = .ok (.aload_n 0, 1) := by decide +kernel
theorem dX9_was_32 : decode cX9_was 32 = .ok (.bipush (-3), 2) := by decide +kernel
theorem dX9_was_34 : decode cX9_was 34 = .ok (.invokevirtual 59, 3) := by decide +kernel
theorem dX9_was_37 : decode cX9_was 37 = .ok (.ireturn, 1) := by decide +kernel
theorem dX9_was_38 : decode cX9_was 38 = .ok (.aload_n 0, 1) := by decide +kernel
theorem dX9_was_39 : decode cX9_was 39 = .ok (.getfield 29, 3) := by decide +kernel
theorem dX9_was_42 : decode cX9_was 42 = .ok (.iload_n 2, 1) := by decide +kernel
theorem dX9_was_43 : decode cX9_was 43 = .ok (.aaload, 1) := by decide +kernel
theorem dX9_was_44 : decode cX9_was 44 = .ok (.getfield 223, 3) := by decide +kernel
theorem dX9_was_47 : decode cX9_was 47 = .ok (.ifCond .ne 10, 3) := by decide +kernel
theorem dX9_was_50 : decode cX9_was 50 = .ok (.aload_n 0, 1) := by decide +kernel
theorem dX9_was_51 : decode cX9_was 51 = .ok (.bipush (-6), 2) := by decide +kernel
theorem dX9_was_53 : decode cX9_was 53 = .ok (.invokevirtual 59, 3) := by decide +kernel
theorem dX9_was_56 : decode cX9_was 56 = .ok (.ireturn, 1) := by decide +kernel
theorem dX9_was_57 : decode cX9_was 57 = .ok (.iconst 0, 1) := by decide +kernel
theorem dX9_was_58 : decode cX9_was 58 = .ok (.istore 5, 2) := by decide +kernel
theorem dX9_was_60 : decode cX9_was 60 = .ok (.iconst 0, 1) := by decide +kernel
theorem dX9_was_61 : decode cX9_was 61 = .ok (.istore 6, 2) := by decide +kernel
theorem dX9_was_63 : decode cX9_was 63 = .ok (.iload 6, 2) := by decide +kernel
theorem dX9_was_65 : decode cX9_was 65 = .ok (.iconst 4, 1) := by decide +kernel
theorem dX9_was_66 : decode cX9_was 66 = .ok (.if_icmp .ge 25, 3) := by decide +kernel
theorem dX9_was_69 : decode cX9_was 69 = .ok (.iload 5, 2) := by decide +kernel
theorem dX9_was_71 : decode cX9_was 71 = .ok (.aload_n 0, 1) := by decide +kernel
theorem dX9_was_72 : decode cX9_was 72 = .ok (.iload_n 1, 1) := by decide +kernel
theorem dX9_was_73 : decode cX9_was 73 = .ok (.iload 6, 2) := by decide +kernel
theorem dX9_was_75 : decode cX9_was 75 = .ok (.iload_n 2, 1) := by decide +kernel
theorem dX9_was_76 : decode cX9_was 76 = .ok (.iload_n 3, 1) := by decide +kernel
theorem dX9_was_77 : decode cX9_was 77 = .ok (.iload 4, 2) := by decide +kernel
theorem dX9_was_79 : decode cX9_was 79 = .ok (.invokevirtual 290, 3) := by decide +kernel
theorem dX9_was_82 : decode cX9_was 82 = .ok (.iadd, 1) := by decide +kernel
theorem dX9_was_83 : decode cX9_was 83 = .ok (.istore 5, 2) := by decide +kernel
theorem dX9_was_85 : decode cX9_was 85 = .ok (.iinc 6 1, 3) := by decide +kernel
theorem dX9_was_88 : decode cX9_was 88 = .ok (.goto (-25), 3) := by decide +kernel
theorem dX9_was_91 : decode cX9_was 91 = .ok (.iload 5, 2) := by decide +kernel
theorem dX9_was_93 : decode cX9_was 93 = .ok (.ireturn, 1) := by decide +kernel
theorem dX9_runsLike_0 : decode cX9_runsLike 0 = .ok (.iconst 0, 1) := by decide +kernel
theorem dX9_runsLike_1 : decode cX9_runsLike 1 = .ok (.istore 6, 2) := by decide +kernel
theorem dX9_runsLike_3 : decode cX9_runsLike 3 = .ok (.iconst 1, 1) := by decide +kernel
theorem dX9_runsLike_4 : decode cX9_runsLike 4 = .ok (.istore 7, 2) := by decide +kernel
theorem dX9_runsLike_6 : decode cX9_runsLike 6 = .ok (.iload 7, 2) := by decide +kernel
theorem dX9_runsLike_8 : decode cX9_runsLike 8 = .ok (.iload 4, 2) := by decide +kernel
theorem dX9_runsLike_10 : decode cX9_runsLike 10 = .ok (.if_icmp .gt 99, 3) := by decide +kernel
theorem dX9_runsLike_13 : decode cX9_runsLike 13 = .ok (.aload_n 0, 1) := by decide +kernel
theorem dX9_runsLike_14 : decode cX9_runsLike 14 = .ok (.getfield 40, 3) := by decide +kernel
theorem dX9_runsLike_17 : decode cX9_runsLike 17 = .ok (.aload_n 0, 1) := by decide +kernel
theorem dX9_runsLike_18 : decode cX9_runsLike 18 = .ok (.getfield 19, 3) := by decide +kernel
theorem dX9_runsLike_21 : decode cX9_runsLike 21 = .ok (.getfield 94, 3) := by decide +kernel
theorem dX9_runsLike_24 : decode cX9_runsLike 24 = .ok (.iload_n 1, 1) := by decide +kernel
theorem dX9_runsLike_25 : decode cX9_runsLike 25 = .ok (.aaload, 1) := by decide +kernel
theorem dX9_runsLike_26 : decode cX9_runsLike 26 = .ok (.aload_n 0, 1) := by decide +kernel
theorem dX9_runsLike_27 : decode cX9_runsLike 27 = .ok (.getfield 19, 3) := by decide +kernel
theorem dX9_runsLike_30 : decode cX9_runsLike 30 = .ok (.getfield 105, 3) := by decide +kernel
theorem dX9_runsLike_33 : decode cX9_runsLike 33 = .ok (.iload_n 2, 1) := by decide +kernel
theorem dX9_runsLike_34 : decode cX9_runsLike 34 = .ok (.aaload, 1) := by decide +kernel
theorem dX9_runsLike_35 : decode cX9_runsLike 35 = .ok (.aload_n 0, 1) := by decide +kernel
theorem dX9_runsLike_36 : decode cX9_runsLike 36 = .ok (.getfield 19, 3) := by decide +kernel
theorem dX9_runsLike_39 : decode cX9_runsLike 39 = .ok (.getfield 117, 3) := by decide +kernel
theorem dX9_runsLike_42 : decode cX9_runsLike 42 = .ok (.iload 7, 2) := by decide +kernel
theorem dX9_runsLike_44 : decode cX9_runsLike 44 = .ok (.invokevirtual 182, 3) := by decide +kernel
theorem dX9_runsLike_47 : decode cX9_runsLike 47 = .ok (.pop, 1) := by decide +kernel
theorem dX9_runsLike_48 : decode cX9_runsLike 48 = .ok (.iload 5, 2) := by decide +kernel
theorem dX9_runsLike_50 : decode cX9_runsLike 50 = .ok (.iconst (-1), 1) := by decide +kernel
theorem dX9_runsLike_51 : decode cX9_runsLike 51 = .ok (.if_icmp .eq 18, 3) := by decide +kernel
theorem dX9_runsLike_54 : decode cX9_runsLike 54 = .ok (.aload_n 0, 1) := by decide +kernel
theorem dX9_runsLike_55 : decode cX9_runsLike 55 = .ok (.getfield 40, 3) := by decide +kernel
theorem dX9_runsLike_58 : decode cX9_runsLike 58 = .ok (.getfield 190, 3) := by decide +kernel
theorem dX9_runsLike_61 : decode cX9_runsLike 61 = .ok (.iload 5, 2) := by decide +kernel
theorem dX9_runsLike_63 : decode cX9_runsLike 63 = .ok (.invokevirtual 259, 3) := by decide +kernel
theorem dX9_runsLike_66 : decode cX9_runsLike 66 = .ok (.ifCond .ne 7, 3) := by decide +kernel
theorem dX9_runsLike_69 : decode cX9_runsLike 69 = .ok (.iconst 1, 1) := by decide +kernel
theorem dX9_runsLike_70 : decode cX9_runsLike 70 = .ok (.goto 4, 3) := by decide +kernel
theorem dX9_runsLike_73 : decode cX9_runsLike 73 = .ok (.iconst 0, 1) := by decide +kernel
theorem dX9_runsLike_74 : decode cX9_runsLike 74 = .ok (.istore 8, 2) := by decide +kernel
theorem dX9_runsLike_76 : decode cX9_runsLike 76 = .ok (.iload 8, 2) := by decide +kernel
theorem dX9_runsLike_78 : decode cX9_runsLike 78 = .ok (.ifCond .eq 25, 3) := by decide +kernel
theorem dX9_runsLike_81 : decode cX9_runsLike 81 = .ok (.aload_n 0, 1) := by decide +kernel
theorem dX9_runsLike_82 : decode cX9_runsLike 82 = .ok (.getfield 40, 3) := by decide +kernel
theorem dX9_runsLike_85 : decode cX9_runsLike 85 = .ok (.getfield 190, 3) := by decide +kernel
theorem dX9_runsLike_88 : decode cX9_runsLike 88 = .ok (.aload_n 0, 1) := by decide +kernel
theorem dX9_runsLike_89 : decode cX9_runsLike 89 = .ok (.getfield 29, 3) := by decide +kernel
theorem dX9_runsLike_92 : decode cX9_runsLike 92 = .ok (.iload_n 3, 1) := by decide +kernel
theorem dX9_runsLike_93 : decode cX9_runsLike 93 = .ok (.aaload, 1) := by decide +kernel
theorem dX9_runsLike_94 : decode cX9_runsLike 94 = .ok (.invokevirtual 294, 3) := by decide +kernel
theorem dX9_runsLike_97 : decode cX9_runsLike 97 = .ok (.ifCond .eq 6, 3) := by decide +kernel
theorem dX9_runsLike_100 : decode cX9_runsLike 100 = .ok (.iinc 6 1, 3) := by decide +kernel
theorem dX9_runsLike_103 : decode cX9_runsLike 103 = .ok (.iinc 7 1, 3) := by decide +kernel
theorem dX9_runsLike_106 : decode cX9_runsLike 106 = .ok (.goto (-100), 3) := by decide +kernel
theorem dX9_runsLike_109 : decode cX9_runsLike 109 = .ok (.iload 6, 2) := by decide +kernel
theorem dX9_runsLike_111 : decode cX9_runsLike 111 = .ok (.ireturn, 1) := by decide +kernel
theorem dX9_found_0 : decode cX9_found 0 = .ok (.iload_n 1, 1) := by decide +kernel
theorem dX9_found_1 : decode cX9_found 1 = .ok (.ifCond .lt 43, 3) := by decide +kernel
theorem dX9_found_4 : decode cX9_found 4 = .ok (.iload_n 1, 1) := by decide +kernel
theorem dX9_found_5 : decode cX9_found 5 = .ok (.aload_n 0, 1) := by decide +kernel
theorem dX9_found_6 : decode cX9_found 6 = .ok (.getfield 19, 3) := by decide +kernel
theorem dX9_found_9 : decode cX9_found 9 = .ok (.getfield 127, 3) := by decide +kernel
theorem dX9_found_12 : decode cX9_found 12 = .ok (.getfield 297, 3) := by decide +kernel
theorem dX9_found_15 : decode cX9_found 15 = .ok (.if_icmp .ge 29, 3) := by decide +kernel
theorem dX9_found_18 : decode cX9_found 18 = .ok (.aload_n 0, 1) := by decide +kernel
theorem dX9_found_19 : decode cX9_found 19 = .ok (.iload_n 2, 1) := by decide +kernel
theorem dX9_found_20 : decode cX9_found 20 = .ok (.invokevirtual 140, 3) := by decide +kernel
theorem dX9_found_23 : decode cX9_found 23 = .ok (.ifCond .eq 21, 3) := by decide +kernel
theorem dX9_found_26 : decode cX9_found 26 = .ok (.iload_n 3, 1) := by decide +kernel
theorem dX9_found_27 : decode cX9_found 27 = .ok (.invokestatic 172, 3) := by decide +kernel
theorem dX9_found_30 : decode cX9_found 30 = .ok (.ifCond .eq 14, 3) := by decide +kernel
theorem dX9_found_33 : decode cX9_found 33 = .ok (.iload 5, 2) := by decide +kernel
theorem dX9_found_35 : decode cX9_found 35 = .ok (.ifCond .lt 9, 3) := by decide +kernel
theorem dX9_found_38 : decode cX9_found 38 = .ok (.iload 5, 2) := by decide +kernel
theorem dX9_found_40 : decode cX9_found 40 = .ok (.iconst 1, 1) := by decide +kernel
theorem dX9_found_41 : decode cX9_found 41 = .ok (.if_icmp .le 10, 3) := by decide +kernel
theorem dX9_found_44 : decode cX9_found 44 = .ok (.aload_n 0, 1) := by decide +kernel
theorem dX9_found_45 : decode cX9_found 45 = .ok (.bipush (-2), 2) := by decide +kernel
theorem dX9_found_47 : decode cX9_found 47 = .ok (.invokevirtual 59, 3) := by decide +kernel
theorem dX9_found_50 : decode cX9_found 50 = .ok (.ireturn, 1) := by decide +kernel
theorem dX9_found_51 : decode cX9_found 51 = .ok (.iload 4, 2) := by decide +kernel
theorem dX9_found_53 : decode cX9_found 53 = .ok (.invokestatic 251, 3) := by decide +kernel
theorem dX9_found_56 : decode cX9_found 56 = .ok (.ifCond .ne 10, 3) := by decide +kernel
theorem dX9_found_59 : decode cX9_found 59 = .ok (.aload_n 0, 1) := by decide +kernel
theorem dX9_found_60 : decode cX9_found 60 = .ok (.bipush (-3), 2) := by decide +kernel
theorem dX9_found_62 : decode cX9_found 62 = .ok (.invokevirtual 59, 3) := by decide +kernel
theorem dX9_found_65 : decode cX9_found 65 = .ok (.ireturn, 1) := by decide +kernel
theorem dX9_found_66 : decode cX9_found 66 = .ok (.iconst 0, 1) := by decide +kernel
theorem dX9_found_67 : decode cX9_found 67 = .ok (.istore 6, 2) := by decide +kernel
theorem dX9_found_69 : decode cX9_found 69 = .ok (.iconst (-1), 1) := by decide +kernel
theorem dX9_found_70 : decode cX9_found 70 = .ok (.istore 7, 2) := by decide +kernel
theorem dX9_found_72 : decode cX9_found 72 = .ok (.iload 4, 2) := by decide +kernel
theorem dX9_found_74 : decode cX9_found 74 = .ok (.istore 8, 2) := by decide +kernel
theorem dX9_found_76 : decode cX9_found 76 = .ok (.iload 8, 2) := by decide +kernel
theorem dX9_found_78 : decode cX9_found 78 = .ok (.iconst 1, 1) := by decide +kernel
theorem dX9_found_79 : decode cX9_found 79 = .ok (.if_icmp .lt 72, 3) := by decide +kernel
theorem dX9_found_82 : decode cX9_found 82 = .ok (.aload_n 0, 1) := by decide +kernel
theorem dX9_found_83 : decode cX9_found 83 = .ok (.getfield 40, 3) := by decide +kernel
theorem dX9_found_86 : decode cX9_found 86 = .ok (.aload_n 0, 1) := by decide +kernel
theorem dX9_found_87 : decode cX9_found 87 = .ok (.getfield 19, 3) := by decide +kernel
theorem dX9_found_90 : decode cX9_found 90 = .ok (.getfield 94, 3) := by decide +kernel
theorem dX9_found_93 : decode cX9_found 93 = .ok (.iload_n 2, 1) := by decide +kernel
theorem dX9_found_94 : decode cX9_found 94 = .ok (.aaload, 1) := by decide +kernel
theorem dX9_found_95 : decode cX9_found 95 = .ok (.aload_n 0, 1) := by decide +kernel
theorem dX9_found_96 : decode cX9_found 96 = .ok (.getfield 19, 3) := by decide +kernel
theorem dX9_found_99 : decode cX9_found 99 = .ok (.getfield 105, 3) := by decide +kernel
theorem dX9_found_102 : decode cX9_found 102 = .ok (.iload_n 3, 1) := by decide +kernel
theorem dX9_found_103 : decode cX9_found 103 = .ok (.aaload, 1) := by decide +kernel
theorem dX9_found_104 : decode cX9_found 104 = .ok (.aload_n 0, 1) := by decide +kernel
theorem dX9_found_105 : decode cX9_found 105 = .ok (.getfield 19, 3) := by decide +kernel
theorem dX9_found_108 : decode cX9_found 108 = .ok (.getfield 117, 3) := by decide +kernel
theorem dX9_found_111 : decode cX9_found 111 = .ok (.iload 8, 2) := by decide +kernel
theorem dX9_found_113 : decode cX9_found 113 = .ok (.invokevirtual 182, 3) := by decide +kernel
theorem dX9_found_116 : decode cX9_found 116 = .ok (.pop, 1) := by decide +kernel
theorem dX9_found_117 : decode cX9_found 117 = .ok (.aload_n 0, 1) := by decide +kernel
theorem dX9_found_118 : decode cX9_found 118 = .ok (.getfield 19, 3) := by decide +kernel
theorem dX9_found_121 : decode cX9_found 121 = .ok (.getfield 127, 3) := by decide +kernel
theorem dX9_found_124 : decode cX9_found 124 = .ok (.iload_n 1, 1) := by decide +kernel
theorem dX9_found_125 : decode cX9_found 125 = .ok (.aload_n 0, 1) := by decide +kernel
theorem dX9_found_126 : decode cX9_found 126 = .ok (.getfield 40, 3) := by decide +kernel
theorem dX9_found_129 : decode cX9_found 129 = .ok (.getfield 190, 3) := by decide +kernel
theorem dX9_found_132 : decode cX9_found 132 = .ok (.invokevirtual 300, 3) := by decide +kernel
theorem dX9_found_135 : decode cX9_found 135 = .ok (.ifCond .eq 10, 3) := by decide +kernel
theorem dX9_found_138 : decode cX9_found 138 = .ok (.iinc 6 1, 3) := by decide +kernel
theorem dX9_found_141 : decode cX9_found 141 = .ok (.iload 8, 2) := by decide +kernel
theorem dX9_found_143 : decode cX9_found 143 = .ok (.istore 7, 2) := by decide +kernel
theorem dX9_found_145 : decode cX9_found 145 = .ok (.iinc 8 (-1), 3) := by decide +kernel
theorem dX9_found_148 : decode cX9_found 148 = .ok (.goto (-72), 3) := by decide +kernel
theorem dX9_found_151 : decode cX9_found 151 = .ok (.iload 5, 2) := by decide +kernel
theorem dX9_found_153 : decode cX9_found 153 = .ok (.ifCond .ne 8, 3) := by decide +kernel
theorem dX9_found_156 : decode cX9_found 156 = .ok (.iload 6, 2) := by decide +kernel
theorem dX9_found_158 : decode cX9_found 158 = .ok (.goto 5, 3) := by decide +kernel
theorem dX9_found_161 : decode cX9_found 161 = .ok (.iload 7, 2) := by decide +kernel
theorem dX9_found_163 : decode cX9_found 163 = .ok (.ireturn, 1) := by decide +kernel
theorem dX9_middle_0 : decode cX9_middle 0 = .ok (.aload_n 0, 1) := by decide +kernel
theorem dX9_middle_1 : decode cX9_middle 1 = .ok (.iload_n 1, 1) := by decide +kernel
theorem dX9_middle_2 : decode cX9_middle 2 = .ok (.invokevirtual 140, 3) := by decide +kernel
theorem dX9_middle_5 : decode cX9_middle 5 = .ok (.ifCond .eq 21, 3) := by decide +kernel
theorem dX9_middle_8 : decode cX9_middle 8 = .ok (.iload_n 2, 1) := by decide +kernel
theorem dX9_middle_9 : decode cX9_middle 9 = .ok (.invokestatic 172, 3) := by decide +kernel
theorem dX9_middle_12 : decode cX9_middle 12 = .ok (.ifCond .eq 14, 3) := by decide +kernel
theorem dX9_middle_15 : decode cX9_middle 15 = .ok (.iload 4, 2) := by decide +kernel
theorem dX9_middle_17 : decode cX9_middle 17 = .ok (.ifCond .lt 9, 3) := by decide +kernel
theorem dX9_middle_20 : decode cX9_middle 20 = .ok (.iload 4, 2) := by decide +kernel
theorem dX9_middle_22 : decode cX9_middle 22 = .ok (.iconst 3, 1) := by decide +kernel
theorem dX9_middle_23 : decode cX9_middle 23 = .ok (.if_icmp .le 10, 3) := by decide +kernel
theorem dX9_middle_26 : decode cX9_middle 26 = .ok (.aload_n 0, 1) := by decide +kernel
theorem dX9_middle_27 : decode cX9_middle 27 = .ok (.bipush (-2), 2) := by decide +kernel
theorem dX9_middle_29 : decode cX9_middle 29 = .ok (.invokevirtual 59, 3) := by decide +kernel
theorem dX9_middle_32 : decode cX9_middle 32 = .ok (.ireturn, 1) := by decide +kernel
theorem dX9_middle_33 : decode cX9_middle 33 = .ok (.iload_n 3, 1) := by decide +kernel
theorem dX9_middle_34 : decode cX9_middle 34 = .ok (.invokestatic 251, 3) := by decide +kernel
theorem dX9_middle_37 : decode cX9_middle 37 = .ok (.ifCond .ne 10, 3) := by decide +kernel
theorem dX9_middle_40 : decode cX9_middle 40 = .ok (.aload_n 0, 1) := by decide +kernel
theorem dX9_middle_41 : decode cX9_middle 41 = .ok (.bipush (-3), 2) := by decide +kernel
theorem dX9_middle_43 : decode cX9_middle 43 = .ok (.invokevirtual 59, 3) := by decide +kernel
theorem dX9_middle_46 : decode cX9_middle 46 = .ok (.ireturn, 1) := by decide +kernel
theorem dX9_middle_47 : decode cX9_middle 47 = .ok (.iconst 0, 1) := by decide +kernel
theorem dX9_middle_48 : decode cX9_middle 48 = .ok (.istore 5, 2) := by decide +kernel
theorem dX9_middle_50 : decode cX9_middle 50 = .ok (.iconst 0, 1) := by decide +kernel
theorem dX9_middle_51 : decode cX9_middle 51 = .ok (.istore 6, 2) := by decide +kernel
theorem dX9_middle_53 : decode cX9_middle 53 = .ok (.iconst (-1), 1) := by decide +kernel
theorem dX9_middle_54 : decode cX9_middle 54 = .ok (.istore 7, 2) := by decide +kernel
theorem dX9_middle_56 : decode cX9_middle 56 = .ok (.iconst (-1), 1) := by decide +kernel
theorem dX9_middle_57 : decode cX9_middle 57 = .ok (.istore 8, 2) := by decide +kernel
theorem dX9_middle_59 : decode cX9_middle 59 = .ok (.iconst 1, 1) := by decide +kernel
theorem dX9_middle_60 : decode cX9_middle 60 = .ok (.istore 9, 2) := by decide +kernel
theorem dX9_middle_62 : decode cX9_middle 62 = .ok (.iload 9, 2) := by decide +kernel
theorem dX9_middle_64 : decode cX9_middle 64 = .ok (.iload_n 3, 1) := by decide +kernel
theorem dX9_middle_65 : decode cX9_middle 65 = .ok (.if_icmp .gt 125, 3) := by decide +kernel
theorem dX9_middle_68 : decode cX9_middle 68 = .ok (.aload_n 0, 1) := by decide +kernel
theorem dX9_middle_69 : decode cX9_middle 69 = .ok (.getfield 40, 3) := by decide +kernel
theorem dX9_middle_72 : decode cX9_middle 72 = .ok (.aload_n 0, 1) := by decide +kernel
theorem dX9_middle_73 : decode cX9_middle 73 = .ok (.getfield 19, 3) := by decide +kernel
theorem dX9_middle_76 : decode cX9_middle 76 = .ok (.getfield 94, 3) := by decide +kernel
theorem dX9_middle_79 : decode cX9_middle 79 = .ok (.iload_n 1, 1) := by decide +kernel
theorem dX9_middle_80 : decode cX9_middle 80 = .ok (.aaload, 1) := by decide +kernel
theorem dX9_middle_81 : decode cX9_middle 81 = .ok (.aload_n 0, 1) := by decide +kernel
theorem dX9_middle_82 : decode cX9_middle 82 = .ok (.getfield 19, 3) := by decide +kernel
theorem dX9_middle_85 : decode cX9_middle 85 = .ok (.getfield 105, 3) := by decide +kernel
theorem dX9_middle_88 : decode cX9_middle 88 = .ok (.iload_n 2, 1) := by decide +kernel
theorem dX9_middle_89 : decode cX9_middle 89 = .ok (.aaload, 1) := by decide +kernel
theorem dX9_middle_90 : decode cX9_middle 90 = .ok (.aload_n 0, 1) := by decide +kernel
theorem dX9_middle_91 : decode cX9_middle 91 = .ok (.getfield 19, 3) := by decide +kernel
theorem dX9_middle_94 : decode cX9_middle 94 = .ok (.getfield 117, 3) := by decide +kernel
theorem dX9_middle_97 : decode cX9_middle 97 = .ok (.iload 9, 2) := by decide +kernel
theorem dX9_middle_99 : decode cX9_middle 99 = .ok (.invokevirtual 182, 3) := by decide +kernel
theorem dX9_middle_102 : decode cX9_middle 102 = .ok (.istore 10, 2) := by decide +kernel
theorem dX9_middle_104 : decode cX9_middle 104 = .ok (.iload 10, 2) := by decide +kernel
theorem dX9_middle_106 : decode cX9_middle 106 = .ok (.iconst 3, 1) := by decide +kernel
theorem dX9_middle_107 : decode cX9_middle 107 = .ok (.if_icmp .lt 15, 3) := by decide +kernel
theorem dX9_middle_110 : decode cX9_middle 110 = .ok (.iinc 5 1, 3) := by decide +kernel
theorem dX9_middle_113 : decode cX9_middle 113 = .ok (.iload 6, 2) := by decide +kernel
theorem dX9_middle_115 : decode cX9_middle 115 = .ok (.iload 10, 2) := by decide +kernel
theorem dX9_middle_117 : decode cX9_middle 117 = .ok (.iconst 2, 1) := by decide +kernel
theorem dX9_middle_118 : decode cX9_middle 118 = .ok (.isub, 1) := by decide +kernel
theorem dX9_middle_119 : decode cX9_middle 119 = .ok (.iadd, 1) := by decide +kernel
theorem dX9_middle_120 : decode cX9_middle 120 = .ok (.istore 6, 2) := by decide +kernel
theorem dX9_middle_122 : decode cX9_middle 122 = .ok (.iconst 1, 1) := by decide +kernel
theorem dX9_middle_123 : decode cX9_middle 123 = .ok (.istore 11, 2) := by decide +kernel
theorem dX9_middle_125 : decode cX9_middle 125 = .ok (.iload 11, 2) := by decide +kernel
theorem dX9_middle_127 : decode cX9_middle 127 = .ok (.iload 10, 2) := by decide +kernel
theorem dX9_middle_129 : decode cX9_middle 129 = .ok (.iconst 1, 1) := by decide +kernel
theorem dX9_middle_130 : decode cX9_middle 130 = .ok (.isub, 1) := by decide +kernel
theorem dX9_middle_131 : decode cX9_middle 131 = .ok (.if_icmp .ge 53, 3) := by decide +kernel
theorem dX9_middle_134 : decode cX9_middle 134 = .ok (.aload_n 0, 1) := by decide +kernel
theorem dX9_middle_135 : decode cX9_middle 135 = .ok (.getfield 40, 3) := by decide +kernel
theorem dX9_middle_138 : decode cX9_middle 138 = .ok (.getfield 190, 3) := by decide +kernel
theorem dX9_middle_141 : decode cX9_middle 141 = .ok (.getfield 211, 3) := by decide +kernel
theorem dX9_middle_144 : decode cX9_middle 144 = .ok (.iload 11, 2) := by decide +kernel
theorem dX9_middle_146 : decode cX9_middle 146 = .ok (.iaload, 1) := by decide +kernel
theorem dX9_middle_147 : decode cX9_middle 147 = .ok (.istore 12, 2) := by decide +kernel
theorem dX9_middle_149 : decode cX9_middle 149 = .ok (.iload 7, 2) := by decide +kernel
theorem dX9_middle_151 : decode cX9_middle 151 = .ok (.iconst (-1), 1) := by decide +kernel
theorem dX9_middle_152 : decode cX9_middle 152 = .ok (.if_icmp .ne 8, 3) := by decide +kernel
theorem dX9_middle_155 : decode cX9_middle 155 = .ok (.iload 12, 2) := by decide +kernel
theorem dX9_middle_157 : decode cX9_middle 157 = .ok (.goto 10, 3) := by decide +kernel
theorem dX9_middle_160 : decode cX9_middle 160 = .ok (.iload 7, 2) := by decide +kernel
theorem dX9_middle_162 : decode cX9_middle 162 = .ok (.iload 12, 2) := by decide +kernel
theorem dX9_middle_164 : decode cX9_middle 164 = .ok (.invokestatic 254, 3) := by decide +kernel
theorem dX9_middle_167 : decode cX9_middle 167 = .ok (.istore 7, 2) := by decide +kernel
theorem dX9_middle_169 : decode cX9_middle 169 = .ok (.iload 8, 2) := by decide +kernel
theorem dX9_middle_171 : decode cX9_middle 171 = .ok (.iload 12, 2) := by decide +kernel
theorem dX9_middle_173 : decode cX9_middle 173 = .ok (.invokestatic 280, 3) := by decide +kernel
theorem dX9_middle_176 : decode cX9_middle 176 = .ok (.istore 8, 2) := by decide +kernel
theorem dX9_middle_178 : decode cX9_middle 178 = .ok (.iinc 11 1, 3) := by decide +kernel
theorem dX9_middle_181 : decode cX9_middle 181 = .ok (.goto (-56), 3) := by decide +kernel
theorem dX9_middle_184 : decode cX9_middle 184 = .ok (.iinc 9 1, 3) := by decide +kernel
theorem dX9_middle_187 : decode cX9_middle 187 = .ok (.goto (-125), 3) := by decide +kernel
theorem dX9_middle_190 : decode cX9_middle 190 = .ok (.iload 4, 2) := by decide +kernel
theorem dX9_middle_192 : decode cX9_middle 192 = .ok (.tableswitch 37 0 2 #[28, 31, 34], 28) := by decide +kernel
theorem dX9_middle_220 : decode cX9_middle 220 = .ok (.iload 5, 2) := by decide +kernel
theorem dX9_middle_222 : decode cX9_middle 222 = .ok (.ireturn, 1) := by decide +kernel
theorem dX9_middle_223 : decode cX9_middle 223 = .ok (.iload 6, 2) := by decide +kernel
theorem dX9_middle_225 : decode cX9_middle 225 = .ok (.ireturn, 1) := by decide +kernel
theorem dX9_middle_226 : decode cX9_middle 226 = .ok (.iload 7, 2) := by decide +kernel
theorem dX9_middle_228 : decode cX9_middle 228 = .ok (.ireturn, 1) := by decide +kernel
theorem dX9_middle_229 : decode cX9_middle 229 = .ok (.iload 8, 2) := by decide +kernel
theorem dX9_middle_231 : decode cX9_middle 231 = .ok (.ireturn, 1) := by decide +kernel
theorem dX9_filmed_0 : decode cX9_filmed 0 = .ok (.aload_n 0, 1) := by decide +kernel
theorem dX9_filmed_1 : decode cX9_filmed 1 = .ok (.iload_n 1, 1) := by decide +kernel
theorem dX9_filmed_2 : decode cX9_filmed 2 = .ok (.invokevirtual 140, 3) := by decide +kernel
theorem dX9_filmed_5 : decode cX9_filmed 5 = .ok (.ifCond .eq 28, 3) := by decide +kernel
theorem dX9_filmed_8 : decode cX9_filmed 8 = .ok (.iload_n 2, 1) := by decide +kernel
theorem dX9_filmed_9 : decode cX9_filmed 9 = .ok (.invokestatic 172, 3) := by decide +kernel
theorem dX9_filmed_12 : decode cX9_filmed 12 = .ok (.ifCond .eq 21, 3) := by decide +kernel
theorem dX9_filmed_15 : decode cX9_filmed 15 = .ok (.iload_n 3, 1) := by decide +kernel
theorem dX9_filmed_16 : decode cX9_filmed 16 = .ok (.invokestatic 220, 3) := by decide +kernel
theorem dX9_filmed_19 : decode cX9_filmed 19 = .ok (.ifCond .eq 14, 3) := by decide +kernel
theorem dX9_filmed_22 : decode cX9_filmed 22 = .ok (.iload 5, 2) := by decide +kernel
theorem dX9_filmed_24 : decode cX9_filmed 24 = .ok (.ifCond .lt 9, 3) := by decide +kernel
theorem dX9_filmed_27 : decode cX9_filmed 27 = .ok (.iload 5, 2) := by decide +kernel
theorem dX9_filmed_29 : decode cX9_filmed 29 = .ok (.iconst 1, 1) := by decide +kernel
theorem dX9_filmed_30 : decode cX9_filmed 30 = .ok (.if_icmp .le 10, 3) := by decide +kernel
theorem dX9_filmed_33 : decode cX9_filmed 33 = .ok (.aload_n 0, 1) := by decide +kernel
theorem dX9_filmed_34 : decode cX9_filmed 34 = .ok (.bipush (-2), 2) := by decide +kernel
theorem dX9_filmed_36 : decode cX9_filmed 36 = .ok (.invokevirtual 59, 3) := by decide +kernel
theorem dX9_filmed_39 : decode cX9_filmed 39 = .ok (.ireturn, 1) := by decide +kernel
theorem dX9_filmed_40 : decode cX9_filmed 40 = .ok (.iload 4, 2) := by decide +kernel
theorem dX9_filmed_42 : decode cX9_filmed 42 = .ok (.invokestatic 251, 3) := by decide +kernel
theorem dX9_filmed_45 : decode cX9_filmed 45 = .ok (.ifCond .ne 10, 3) := by decide +kernel
theorem dX9_filmed_48 : decode cX9_filmed 48 = .ok (.aload_n 0, 1) := by decide +kernel
theorem dX9_filmed_49 : decode cX9_filmed 49 = .ok (.bipush (-3), 2) := by decide +kernel
theorem dX9_filmed_51 : decode cX9_filmed 51 = .ok (.invokevirtual 59, 3) := by decide +kernel
theorem dX9_filmed_54 : decode cX9_filmed 54 = .ok (.ireturn, 1) := by decide +kernel
theorem dX9_filmed_55 : decode cX9_filmed 55 = .ok (.aload_n 0, 1) := by decide +kernel
theorem dX9_filmed_56 : decode cX9_filmed 56 = .ok (.getfield 29, 3) := by decide +kernel
theorem dX9_filmed_59 : decode cX9_filmed 59 = .ok (.iload_n 3, 1) := by decide +kernel
theorem dX9_filmed_60 : decode cX9_filmed 60 = .ok (.aaload, 1) := by decide +kernel
theorem dX9_filmed_61 : decode cX9_filmed 61 = .ok (.getfield 223, 3) := by decide +kernel
theorem dX9_filmed_64 : decode cX9_filmed 64 = .ok (.ifCond .ne 10, 3) := by decide +kernel
theorem dX9_filmed_67 : decode cX9_filmed 67 = .ok (.aload_n 0, 1) := by decide +kernel
theorem dX9_filmed_68 : decode cX9_filmed 68 = .ok (.bipush (-6), 2) := by decide +kernel
theorem dX9_filmed_70 : decode cX9_filmed 70 = .ok (.invokevirtual 59, 3) := by decide +kernel
theorem dX9_filmed_73 : decode cX9_filmed 73 = .ok (.ireturn, 1) := by decide +kernel
theorem dX9_filmed_74 : decode cX9_filmed 74 = .ok (.iconst 0, 1) := by decide +kernel
theorem dX9_filmed_75 : decode cX9_filmed 75 = .ok (.istore 6, 2) := by decide +kernel
theorem dX9_filmed_77 : decode cX9_filmed 77 = .ok (.iconst (-1), 1) := by decide +kernel
theorem dX9_filmed_78 : decode cX9_filmed 78 = .ok (.istore 7, 2) := by decide +kernel
theorem dX9_filmed_80 : decode cX9_filmed 80 = .ok (.iload 4, 2) := by decide +kernel
theorem dX9_filmed_82 : decode cX9_filmed 82 = .ok (.istore 8, 2) := by decide +kernel
theorem dX9_filmed_84 : decode cX9_filmed 84 = .ok (.iload 8, 2) := by decide +kernel
theorem dX9_filmed_86 : decode cX9_filmed 86 = .ok (.iconst 1, 1) := by decide +kernel
theorem dX9_filmed_87 : decode cX9_filmed 87 = .ok (.if_icmp .lt 70, 3) := by decide +kernel
theorem dX9_filmed_90 : decode cX9_filmed 90 = .ok (.aload_n 0, 1) := by decide +kernel
theorem dX9_filmed_91 : decode cX9_filmed 91 = .ok (.getfield 40, 3) := by decide +kernel
theorem dX9_filmed_94 : decode cX9_filmed 94 = .ok (.aload_n 0, 1) := by decide +kernel
theorem dX9_filmed_95 : decode cX9_filmed 95 = .ok (.getfield 19, 3) := by decide +kernel
theorem dX9_filmed_98 : decode cX9_filmed 98 = .ok (.getfield 94, 3) := by decide +kernel
theorem dX9_filmed_101 : decode cX9_filmed 101 = .ok (.iload_n 1, 1) := by decide +kernel
theorem dX9_filmed_102 : decode cX9_filmed 102 = .ok (.aaload, 1) := by decide +kernel
theorem dX9_filmed_103 : decode cX9_filmed 103 = .ok (.aload_n 0, 1) := by decide +kernel
theorem dX9_filmed_104 : decode cX9_filmed 104 = .ok (.getfield 19, 3) := by decide +kernel
theorem dX9_filmed_107 : decode cX9_filmed 107 = .ok (.getfield 105, 3) := by decide +kernel
theorem dX9_filmed_110 : decode cX9_filmed 110 = .ok (.iload_n 2, 1) := by decide +kernel
theorem dX9_filmed_111 : decode cX9_filmed 111 = .ok (.aaload, 1) := by decide +kernel
theorem dX9_filmed_112 : decode cX9_filmed 112 = .ok (.aload_n 0, 1) := by decide +kernel
theorem dX9_filmed_113 : decode cX9_filmed 113 = .ok (.getfield 19, 3) := by decide +kernel
theorem dX9_filmed_116 : decode cX9_filmed 116 = .ok (.getfield 117, 3) := by decide +kernel
theorem dX9_filmed_119 : decode cX9_filmed 119 = .ok (.iload 8, 2) := by decide +kernel
theorem dX9_filmed_121 : decode cX9_filmed 121 = .ok (.invokevirtual 182, 3) := by decide +kernel
theorem dX9_filmed_124 : decode cX9_filmed 124 = .ok (.pop, 1) := by decide +kernel
theorem dX9_filmed_125 : decode cX9_filmed 125 = .ok (.aload_n 0, 1) := by decide +kernel
theorem dX9_filmed_126 : decode cX9_filmed 126 = .ok (.getfield 40, 3) := by decide +kernel
theorem dX9_filmed_129 : decode cX9_filmed 129 = .ok (.getfield 190, 3) := by decide +kernel
theorem dX9_filmed_132 : decode cX9_filmed 132 = .ok (.aload_n 0, 1) := by decide +kernel
theorem dX9_filmed_133 : decode cX9_filmed 133 = .ok (.getfield 29, 3) := by decide +kernel
theorem dX9_filmed_136 : decode cX9_filmed 136 = .ok (.iload_n 3, 1) := by decide +kernel
theorem dX9_filmed_137 : decode cX9_filmed 137 = .ok (.aaload, 1) := by decide +kernel
theorem dX9_filmed_138 : decode cX9_filmed 138 = .ok (.invokevirtual 226, 3) := by decide +kernel
theorem dX9_filmed_141 : decode cX9_filmed 141 = .ok (.ifCond .eq 10, 3) := by decide +kernel
theorem dX9_filmed_144 : decode cX9_filmed 144 = .ok (.iinc 6 1, 3) := by decide +kernel
theorem dX9_filmed_147 : decode cX9_filmed 147 = .ok (.iload 8, 2) := by decide +kernel
theorem dX9_filmed_149 : decode cX9_filmed 149 = .ok (.istore 7, 2) := by decide +kernel
theorem dX9_filmed_151 : decode cX9_filmed 151 = .ok (.iinc 8 (-1), 3) := by decide +kernel
theorem dX9_filmed_154 : decode cX9_filmed 154 = .ok (.goto (-70), 3) := by decide +kernel
theorem dX9_filmed_157 : decode cX9_filmed 157 = .ok (.iload 5, 2) := by decide +kernel
theorem dX9_filmed_159 : decode cX9_filmed 159 = .ok (.ifCond .ne 8, 3) := by decide +kernel
theorem dX9_filmed_162 : decode cX9_filmed 162 = .ok (.iload 6, 2) := by decide +kernel
theorem dX9_filmed_164 : decode cX9_filmed 164 = .ok (.goto 5, 3) := by decide +kernel
theorem dX9_filmed_167 : decode cX9_filmed 167 = .ok (.iload 7, 2) := by decide +kernel
theorem dX9_filmed_169 : decode cX9_filmed 169 = .ok (.ireturn, 1) := by decide +kernel
theorem dX9_swapped_0 : decode cX9_swapped 0 = .ok (.aload_n 0, 1) := by decide +kernel
theorem dX9_swapped_1 : decode cX9_swapped 1 = .ok (.iload_n 1, 1) := by decide +kernel
theorem dX9_swapped_2 : decode cX9_swapped 2 = .ok (.invokevirtual 140, 3) := by decide +kernel
theorem dX9_swapped_5 : decode cX9_swapped 5 = .ok (.ifCond .eq 10, 3) := by decide +kernel
theorem dX9_swapped_8 : decode cX9_swapped 8 = .ok (.iload_n 2, 1) := by decide +kernel
theorem dX9_swapped_9 : decode cX9_swapped 9 = .ok (.invokestatic 172, 3) := by decide +kernel
theorem dX9_swapped_12 : decode cX9_swapped 12 = .ok (.ifCond .ne 10, 3) := by decide +kernel
theorem dX9_swapped_15 : decode cX9_swapped 15 = .ok (.aload_n 0, 1) := by decide +kernel
theorem dX9_swapped_16 : decode cX9_swapped 16 = .ok (.bipush (-2), 2) := by decide +kernel
theorem dX9_swapped_18 : decode cX9_swapped 18 = .ok (.invokevirtual 59, 3) := by decide +kernel
theorem dX9_swapped_21 : decode cX9_swapped 21 = .ok (.ireturn, 1) := by decide +kernel
theorem dX9_swapped_22 : decode cX9_swapped 22 = .ok (.aload_n 0, 1) := by decide +kernel
theorem dX9_swapped_23 : decode cX9_swapped 23 = .ok (.getfield 19, 3) := by decide +kernel
theorem dX9_swapped_26 : decode cX9_swapped 26 = .ok (.getfield 94, 3) := by decide +kernel
theorem dX9_swapped_29 : decode cX9_swapped 29 = .ok (.iload_n 1, 1) := by decide +kernel
theorem dX9_swapped_30 : decode cX9_swapped 30 = .ok (.aaload, 1) := by decide +kernel
theorem dX9_swapped_31 : decode cX9_swapped 31 = .ok (.astore 4, 2) := by decide +kernel
theorem dX9_swapped_33 : decode cX9_swapped 33 = .ok (.aload_n 0, 1) := by decide +kernel
theorem dX9_swapped_34 : decode cX9_swapped 34 = .ok (.getfield 47, 3) := by decide +kernel
theorem dX9_swapped_37 : decode cX9_swapped 37 = .ok (.aload 4, 2) := by decide +kernel
theorem dX9_swapped_39 : decode cX9_swapped 39 = .ok (.getfield 144, 3) := by decide +kernel
theorem dX9_swapped_42 : decode cX9_swapped 42 = .ok (.invokevirtual 275, 3) := by decide +kernel
theorem dX9_swapped_45 : decode cX9_swapped 45 = .ok (.aload_n 0, 1) := by decide +kernel
theorem dX9_swapped_46 : decode cX9_swapped 46 = .ok (.getfield 47, 3) := by decide +kernel
theorem dX9_swapped_49 : decode cX9_swapped 49 = .ok (.aload 4, 2) := by decide +kernel
theorem dX9_swapped_51 : decode cX9_swapped 51 = .ok (.getfield 147, 3) := by decide +kernel
theorem dX9_swapped_54 : decode cX9_swapped 54 = .ok (.putfield 147, 3) := by decide +kernel
theorem dX9_swapped_57 : decode cX9_swapped 57 = .ok (.iconst 0, 1) := by decide +kernel
theorem dX9_swapped_58 : decode cX9_swapped 58 = .ok (.istore 5, 2) := by decide +kernel
theorem dX9_swapped_60 : decode cX9_swapped 60 = .ok (.iload 5, 2) := by decide +kernel
theorem dX9_swapped_62 : decode cX9_swapped 62 = .ok (.aload 4, 2) := by decide +kernel
theorem dX9_swapped_64 : decode cX9_swapped 64 = .ok (.getfield 144, 3) := by decide +kernel
theorem dX9_swapped_67 : decode cX9_swapped 67 = .ok (.if_icmp .ge 30, 3) := by decide +kernel
theorem dX9_swapped_70 : decode cX9_swapped 70 = .ok (.aload_n 0, 1) := by decide +kernel
theorem dX9_swapped_71 : decode cX9_swapped 71 = .ok (.getfield 47, 3) := by decide +kernel
theorem dX9_swapped_74 : decode cX9_swapped 74 = .ok (.iload 5, 2) := by decide +kernel
theorem dX9_swapped_76 : decode cX9_swapped 76 = .ok (.aload 4, 2) := by decide +kernel
theorem dX9_swapped_78 : decode cX9_swapped 78 = .ok (.aload 4, 2) := by decide +kernel
theorem dX9_swapped_80 : decode cX9_swapped 80 = .ok (.getfield 144, 3) := by decide +kernel
theorem dX9_swapped_83 : decode cX9_swapped 83 = .ok (.iconst 1, 1) := by decide +kernel
theorem dX9_swapped_84 : decode cX9_swapped 84 = .ok (.isub, 1) := by decide +kernel
theorem dX9_swapped_85 : decode cX9_swapped 85 = .ok (.iload 5, 2) := by decide +kernel
theorem dX9_swapped_87 : decode cX9_swapped 87 = .ok (.isub, 1) := by decide +kernel
theorem dX9_swapped_88 : decode cX9_swapped 88 = .ok (.invokevirtual 276, 3) := by decide +kernel
theorem dX9_swapped_91 : decode cX9_swapped 91 = .ok (.iinc 5 1, 3) := by decide +kernel
theorem dX9_swapped_94 : decode cX9_swapped 94 = .ok (.goto (-34), 3) := by decide +kernel
theorem dX9_swapped_97 : decode cX9_swapped 97 = .ok (.aload_n 0, 1) := by decide +kernel
theorem dX9_swapped_98 : decode cX9_swapped 98 = .ok (.getfield 40, 3) := by decide +kernel
theorem dX9_swapped_101 : decode cX9_swapped 101 = .ok (.aload_n 0, 1) := by decide +kernel
theorem dX9_swapped_102 : decode cX9_swapped 102 = .ok (.getfield 47, 3) := by decide +kernel
theorem dX9_swapped_105 : decode cX9_swapped 105 = .ok (.aload_n 0, 1) := by decide +kernel
theorem dX9_swapped_106 : decode cX9_swapped 106 = .ok (.getfield 19, 3) := by decide +kernel
theorem dX9_swapped_109 : decode cX9_swapped 109 = .ok (.getfield 105, 3) := by decide +kernel
theorem dX9_swapped_112 : decode cX9_swapped 112 = .ok (.iload_n 2, 1) := by decide +kernel
theorem dX9_swapped_113 : decode cX9_swapped 113 = .ok (.aaload, 1) := by decide +kernel
theorem dX9_swapped_114 : decode cX9_swapped 114 = .ok (.aload_n 0, 1) := by decide +kernel
theorem dX9_swapped_115 : decode cX9_swapped 115 = .ok (.getfield 19, 3) := by decide +kernel
theorem dX9_swapped_118 : decode cX9_swapped 118 = .ok (.getfield 117, 3) := by decide +kernel
theorem dX9_swapped_121 : decode cX9_swapped 121 = .ok (.iload_n 3, 1) := by decide +kernel
theorem dX9_swapped_122 : decode cX9_swapped 122 = .ok (.invokevirtual 182, 3) := by decide +kernel
theorem dX9_swapped_125 : decode cX9_swapped 125 = .ok (.ireturn, 1) := by decide +kernel
theorem dX9_grid_0 : decode cX9_grid 0 = .ok (.aload_n 0, 1) := by decide +kernel
theorem dX9_grid_1 : decode cX9_grid 1 = .ok (.iload_n 1, 1) := by decide +kernel
theorem dX9_grid_2 : decode cX9_grid 2 = .ok (.invokevirtual 140, 3) := by decide +kernel
theorem dX9_grid_5 : decode cX9_grid 5 = .ok (.ifCond .eq 10, 3) := by decide +kernel
theorem dX9_grid_8 : decode cX9_grid 8 = .ok (.iload_n 2, 1) := by decide +kernel
theorem dX9_grid_9 : decode cX9_grid 9 = .ok (.invokestatic 172, 3) := by decide +kernel
theorem dX9_grid_12 : decode cX9_grid 12 = .ok (.ifCond .ne 10, 3) := by decide +kernel
theorem dX9_grid_15 : decode cX9_grid 15 = .ok (.aload_n 0, 1) := by decide +kernel
theorem dX9_grid_16 : decode cX9_grid 16 = .ok (.bipush (-2), 2) := by decide +kernel
theorem dX9_grid_18 : decode cX9_grid 18 = .ok (.invokevirtual 59, 3) := by decide +kernel
theorem dX9_grid_21 : decode cX9_grid 21 = .ok (.ireturn, 1) := by decide +kernel
theorem dX9_grid_22 : decode cX9_grid 22 = .ok (.aload_n 0, 1) := by decide +kernel
theorem dX9_grid_23 : decode cX9_grid 23 = .ok (.getfield 40, 3) := by decide +kernel
theorem dX9_grid_26 : decode cX9_grid 26 = .ok (.aload_n 0, 1) := by decide +kernel
theorem dX9_grid_27 : decode cX9_grid 27 = .ok (.getfield 19, 3) := by decide +kernel
theorem dX9_grid_30 : decode cX9_grid 30 = .ok (.getfield 94, 3) := by decide +kernel
theorem dX9_grid_33 : decode cX9_grid 33 = .ok (.iload_n 1, 1) := by decide +kernel
theorem dX9_grid_34 : decode cX9_grid 34 = .ok (.aaload, 1) := by decide +kernel
theorem dX9_grid_35 : decode cX9_grid 35 = .ok (.aload_n 0, 1) := by decide +kernel
theorem dX9_grid_36 : decode cX9_grid 36 = .ok (.getfield 19, 3) := by decide +kernel
theorem dX9_grid_39 : decode cX9_grid 39 = .ok (.getfield 117, 3) := by decide +kernel
theorem dX9_grid_42 : decode cX9_grid 42 = .ok (.iload_n 3, 1) := by decide +kernel
theorem dX9_grid_43 : decode cX9_grid 43 = .ok (.invokevirtual 230, 3) := by decide +kernel
theorem dX9_grid_46 : decode cX9_grid 46 = .ok (.iconst 0, 1) := by decide +kernel
theorem dX9_grid_47 : decode cX9_grid 47 = .ok (.istore 4, 2) := by decide +kernel
theorem dX9_grid_49 : decode cX9_grid 49 = .ok (.iconst 1, 1) := by decide +kernel
theorem dX9_grid_50 : decode cX9_grid 50 = .ok (.istore 5, 2) := by decide +kernel
theorem dX9_grid_52 : decode cX9_grid 52 = .ok (.iload 5, 2) := by decide +kernel
theorem dX9_grid_54 : decode cX9_grid 54 = .ok (.bipush 9, 2) := by decide +kernel
theorem dX9_grid_56 : decode cX9_grid 56 = .ok (.if_icmp .gt 63, 3) := by decide +kernel
theorem dX9_grid_59 : decode cX9_grid 59 = .ok (.aload_n 0, 1) := by decide +kernel
theorem dX9_grid_60 : decode cX9_grid 60 = .ok (.getfield 40, 3) := by decide +kernel
theorem dX9_grid_63 : decode cX9_grid 63 = .ok (.aload_n 0, 1) := by decide +kernel
theorem dX9_grid_64 : decode cX9_grid 64 = .ok (.getfield 19, 3) := by decide +kernel
theorem dX9_grid_67 : decode cX9_grid 67 = .ok (.getfield 105, 3) := by decide +kernel
theorem dX9_grid_70 : decode cX9_grid 70 = .ok (.iload_n 2, 1) := by decide +kernel
theorem dX9_grid_71 : decode cX9_grid 71 = .ok (.aaload, 1) := by decide +kernel
theorem dX9_grid_72 : decode cX9_grid 72 = .ok (.iload 5, 2) := by decide +kernel
theorem dX9_grid_74 : decode cX9_grid 74 = .ok (.invokevirtual 234, 3) := by decide +kernel
theorem dX9_grid_77 : decode cX9_grid 77 = .ok (.iconst 0, 1) := by decide +kernel
theorem dX9_grid_78 : decode cX9_grid 78 = .ok (.istore 6, 2) := by decide +kernel
theorem dX9_grid_80 : decode cX9_grid 80 = .ok (.iload 6, 2) := by decide +kernel
theorem dX9_grid_82 : decode cX9_grid 82 = .ok (.bipush 20, 2) := by decide +kernel
theorem dX9_grid_84 : decode cX9_grid 84 = .ok (.if_icmp .ge 29, 3) := by decide +kernel
theorem dX9_grid_87 : decode cX9_grid 87 = .ok (.aload_n 0, 1) := by decide +kernel
theorem dX9_grid_88 : decode cX9_grid 88 = .ok (.getfield 40, 3) := by decide +kernel
theorem dX9_grid_91 : decode cX9_grid 91 = .ok (.iload 6, 2) := by decide +kernel
theorem dX9_grid_93 : decode cX9_grid 93 = .ok (.bipush 50, 2) := by decide +kernel
theorem dX9_grid_95 : decode cX9_grid 95 = .ok (.imul, 1) := by decide +kernel
theorem dX9_grid_96 : decode cX9_grid 96 = .ok (.iconst 0, 1) := by decide +kernel
theorem dX9_grid_97 : decode cX9_grid 97 = .ok (.invokevirtual 238, 3) := by decide +kernel
theorem dX9_grid_100 : decode cX9_grid 100 = .ok (.iconst 2, 1) := by decide +kernel
theorem dX9_grid_101 : decode cX9_grid 101 = .ok (.if_icmp .ne 6, 3) := by decide +kernel
theorem dX9_grid_104 : decode cX9_grid 104 = .ok (.iinc 4 1, 3) := by decide +kernel
theorem dX9_grid_107 : decode cX9_grid 107 = .ok (.iinc 6 1, 3) := by decide +kernel
theorem dX9_grid_110 : decode cX9_grid 110 = .ok (.goto (-30), 3) := by decide +kernel
theorem dX9_grid_113 : decode cX9_grid 113 = .ok (.iinc 5 1, 3) := by decide +kernel
theorem dX9_grid_116 : decode cX9_grid 116 = .ok (.goto (-64), 3) := by decide +kernel
theorem dX9_grid_119 : decode cX9_grid 119 = .ok (.iload 4, 2) := by decide +kernel
theorem dX9_grid_121 : decode cX9_grid 121 = .ok (.ireturn, 1) := by decide +kernel
theorem dX9_flies_0 : decode cX9_flies 0 = .ok (.aload_n 0, 1) := by decide +kernel
theorem dX9_flies_1 : decode cX9_flies 1 = .ok (.iload_n 1, 1) := by decide +kernel
theorem dX9_flies_2 : decode cX9_flies 2 = .ok (.invokevirtual 208, 3) := by decide +kernel
theorem dX9_flies_5 : decode cX9_flies 5 = .ok (.istore_n 2, 1) := by decide +kernel
theorem dX9_flies_6 : decode cX9_flies 6 = .ok (.iload_n 2, 1) := by decide +kernel
theorem dX9_flies_7 : decode cX9_flies 7 = .ok (.ifCond .eq 11, 3) := by decide +kernel
theorem dX9_flies_10 : decode cX9_flies 10 = .ok (.aload_n 0, 1) := by decide +kernel
theorem dX9_flies_11 : decode cX9_flies 11 = .ok (.iload_n 2, 1) := by decide +kernel
theorem dX9_flies_12 : decode cX9_flies 12 = .ok (.invokevirtual 59, 3) := by decide +kernel
theorem dX9_flies_15 : decode cX9_flies 15 = .ok (.goto 14, 3) := by decide +kernel
theorem dX9_flies_18 : decode cX9_flies 18 = .ok (.aload_n 0, 1) := by decide +kernel
theorem dX9_flies_19 : decode cX9_flies 19 = .ok (.getfield 19, 3) := by decide +kernel
theorem dX9_flies_22 : decode cX9_flies 22 = .ok (.getfield 186, 3) := by decide +kernel
theorem dX9_flies_25 : decode cX9_flies 25 = .ok (.iload_n 1, 1) := by decide +kernel
theorem dX9_flies_26 : decode cX9_flies 26 = .ok (.invokevirtual 304, 3) := by decide +kernel
theorem dX9_flies_29 : decode cX9_flies 29 = .ok (.ireturn, 1) := by decide +kernel
theorem dX9_row_0 : decode cX9_row 0 = .ok (.iload_n 1, 1) := by decide +kernel
theorem dX9_row_1 : decode cX9_row 1 = .ok (.invokestatic 220, 3) := by decide +kernel
theorem dX9_row_4 : decode cX9_row 4 = .ok (.ifCond .eq 12, 3) := by decide +kernel
theorem dX9_row_7 : decode cX9_row 7 = .ok (.iload_n 2, 1) := by decide +kernel
theorem dX9_row_8 : decode cX9_row 8 = .ok (.ifCond .lt 8, 3) := by decide +kernel
theorem dX9_row_11 : decode cX9_row 11 = .ok (.iload_n 2, 1) := by decide +kernel
theorem dX9_row_12 : decode cX9_row 12 = .ok (.iconst 3, 1) := by decide +kernel
theorem dX9_row_13 : decode cX9_row 13 = .ok (.if_icmp .le 10, 3) := by decide +kernel
theorem dX9_row_16 : decode cX9_row 16 = .ok (.aload_n 0, 1) := by decide +kernel
theorem dX9_row_17 : decode cX9_row 17 = .ok (.bipush (-2), 2) := by decide +kernel
theorem dX9_row_19 : decode cX9_row 19 = .ok (.invokevirtual 59, 3) := by decide +kernel
theorem dX9_row_22 : decode cX9_row 22 = .ok (.ireturn, 1) := by decide +kernel
theorem dX9_row_23 : decode cX9_row 23 = .ok (.iload_n 3, 1) := by decide +kernel
theorem dX9_row_24 : decode cX9_row 24 = .ok (.ifCond .lt 9, 3) := by decide +kernel
theorem dX9_row_27 : decode cX9_row 27 = .ok (.iload_n 3, 1) := by decide +kernel
theorem dX9_row_28 : decode cX9_row 28 = .ok (.bipush 60, 2) := by decide +kernel
theorem dX9_row_30 : decode cX9_row 30 = .ok (.if_icmp .le 10, 3) := by decide +kernel
theorem dX9_row_33 : decode cX9_row 33 = .ok (.aload_n 0, 1) := by decide +kernel
theorem dX9_row_34 : decode cX9_row 34 = .ok (.bipush (-3), 2) := by decide +kernel
theorem dX9_row_36 : decode cX9_row 36 = .ok (.invokevirtual 59, 3) := by decide +kernel
theorem dX9_row_39 : decode cX9_row 39 = .ok (.ireturn, 1) := by decide +kernel
theorem dX9_row_40 : decode cX9_row 40 = .ok (.aload_n 0, 1) := by decide +kernel
theorem dX9_row_41 : decode cX9_row 41 = .ok (.getfield 29, 3) := by decide +kernel
theorem dX9_row_44 : decode cX9_row 44 = .ok (.iload_n 1, 1) := by decide +kernel
theorem dX9_row_45 : decode cX9_row 45 = .ok (.aaload, 1) := by decide +kernel
theorem dX9_row_46 : decode cX9_row 46 = .ok (.iload_n 2, 1) := by decide +kernel
theorem dX9_row_47 : decode cX9_row 47 = .ok (.iload_n 3, 1) := by decide +kernel
theorem dX9_row_48 : decode cX9_row 48 = .ok (.invokevirtual 307, 3) := by decide +kernel
theorem dX9_row_51 : decode cX9_row 51 = .ok (.iconst 0, 1) := by decide +kernel
theorem dX9_row_52 : decode cX9_row 52 = .ok (.ireturn, 1) := by decide +kernel
theorem dX9_write_0 : decode cX9_write 0 = .ok (.iload_n 1, 1) := by decide +kernel
theorem dX9_write_1 : decode cX9_write 1 = .ok (.invokestatic 220, 3) := by decide +kernel
theorem dX9_write_4 : decode cX9_write 4 = .ok (.ifCond .ne 11, 3) := by decide +kernel
theorem dX9_write_7 : decode cX9_write 7 = .ok (.aload_n 0, 1) := by decide +kernel
theorem dX9_write_8 : decode cX9_write 8 = .ok (.bipush (-2), 2) := by decide +kernel
theorem dX9_write_10 : decode cX9_write 10 = .ok (.invokevirtual 59, 3) := by decide +kernel
theorem dX9_write_13 : decode cX9_write 13 = .ok (.i2l, 1) := by decide +kernel
theorem dX9_write_14 : decode cX9_write 14 = .ok (.lreturn, 1) := by decide +kernel
theorem dX9_write_15 : decode cX9_write 15 = .ok (.aload_n 0, 1) := by decide +kernel
theorem dX9_write_16 : decode cX9_write 16 = .ok (.getfield 29, 3) := by decide +kernel
theorem dX9_write_19 : decode cX9_write 19 = .ok (.iload_n 1, 1) := by decide +kernel
theorem dX9_write_20 : decode cX9_write 20 = .ok (.aaload, 1) := by decide +kernel
theorem dX9_write_21 : decode cX9_write 21 = .ok (.getfield 223, 3) := by decide +kernel
theorem dX9_write_24 : decode cX9_write 24 = .ok (.ifCond .ne 11, 3) := by decide +kernel
theorem dX9_write_27 : decode cX9_write 27 = .ok (.aload_n 0, 1) := by decide +kernel
theorem dX9_write_28 : decode cX9_write 28 = .ok (.bipush (-6), 2) := by decide +kernel
theorem dX9_write_30 : decode cX9_write 30 = .ok (.invokevirtual 59, 3) := by decide +kernel
theorem dX9_write_33 : decode cX9_write 33 = .ok (.i2l, 1) := by decide +kernel
theorem dX9_write_34 : decode cX9_write 34 = .ok (.lreturn, 1) := by decide +kernel
theorem dX9_write_35 : decode cX9_write 35 = .ok (.iload_n 2, 1) := by decide +kernel
theorem dX9_write_36 : decode cX9_write 36 = .ok (.ifCond .lt 16, 3) := by decide +kernel
theorem dX9_write_39 : decode cX9_write 39 = .ok (.iload_n 2, 1) := by decide +kernel
theorem dX9_write_40 : decode cX9_write 40 = .ok (.aload_n 0, 1) := by decide +kernel
theorem dX9_write_41 : decode cX9_write 41 = .ok (.getfield 29, 3) := by decide +kernel
theorem dX9_write_44 : decode cX9_write 44 = .ok (.iload_n 1, 1) := by decide +kernel
theorem dX9_write_45 : decode cX9_write 45 = .ok (.aaload, 1) := by decide +kernel
theorem dX9_write_46 : decode cX9_write 46 = .ok (.getfield 309, 3) := by decide +kernel
theorem dX9_write_49 : decode cX9_write 49 = .ok (.if_icmp .lt 11, 3) := by decide +kernel
theorem dX9_write_52 : decode cX9_write 52 = .ok (.aload_n 0, 1) := by decide +kernel
theorem dX9_write_53 : decode cX9_write 53 = .ok (.bipush (-7), 2) := by decide +kernel
theorem dX9_write_55 : decode cX9_write 55 = .ok (.invokevirtual 59, 3) := by decide +kernel
theorem dX9_write_58 : decode cX9_write 58 = .ok (.i2l, 1) := by decide +kernel
theorem dX9_write_59 : decode cX9_write 59 = .ok (.lreturn, 1) := by decide +kernel
theorem dX9_write_60 : decode cX9_write 60 = .ok (.aload_n 0, 1) := by decide +kernel
theorem dX9_write_61 : decode cX9_write 61 = .ok (.getfield 29, 3) := by decide +kernel
theorem dX9_write_64 : decode cX9_write 64 = .ok (.iload_n 1, 1) := by decide +kernel
theorem dX9_write_65 : decode cX9_write 65 = .ok (.aaload, 1) := by decide +kernel
theorem dX9_write_66 : decode cX9_write 66 = .ok (.iload_n 2, 1) := by decide +kernel
theorem dX9_write_67 : decode cX9_write 67 = .ok (.lload_n 3, 1) := by decide +kernel
theorem dX9_write_68 : decode cX9_write 68 = .ok (.invokevirtual 312, 3) := by decide +kernel
theorem dX9_write_71 : decode cX9_write 71 = .ok (.lreturn, 1) := by decide +kernel
theorem dX9_keep_0 : decode cX9_keep 0 = .ok (.iload_n 1, 1) := by decide +kernel
theorem dX9_keep_1 : decode cX9_keep 1 = .ok (.invokestatic 220, 3) := by decide +kernel
theorem dX9_keep_4 : decode cX9_keep 4 = .ok (.ifCond .eq 12, 3) := by decide +kernel
theorem dX9_keep_7 : decode cX9_keep 7 = .ok (.iload_n 2, 1) := by decide +kernel
theorem dX9_keep_8 : decode cX9_keep 8 = .ok (.ifCond .lt 8, 3) := by decide +kernel
theorem dX9_keep_11 : decode cX9_keep 11 = .ok (.iload_n 2, 1) := by decide +kernel
theorem dX9_keep_12 : decode cX9_keep 12 = .ok (.iconst 1, 1) := by decide +kernel
theorem dX9_keep_13 : decode cX9_keep 13 = .ok (.if_icmp .le 10, 3) := by decide +kernel
theorem dX9_keep_16 : decode cX9_keep 16 = .ok (.aload_n 0, 1) := by decide +kernel
theorem dX9_keep_17 : decode cX9_keep 17 = .ok (.bipush (-2), 2) := by decide +kernel
theorem dX9_keep_19 : decode cX9_keep 19 = .ok (.invokevirtual 59, 3) := by decide +kernel
theorem dX9_keep_22 : decode cX9_keep 22 = .ok (.ireturn, 1) := by decide +kernel
theorem dX9_keep_23 : decode cX9_keep 23 = .ok (.aload_n 0, 1) := by decide +kernel
theorem dX9_keep_24 : decode cX9_keep 24 = .ok (.getfield 19, 3) := by decide +kernel
theorem dX9_keep_27 : decode cX9_keep 27 = .ok (.getfield 198, 3) := by decide +kernel
theorem dX9_keep_30 : decode cX9_keep 30 = .ok (.ifCond .ne 10, 3) := by decide +kernel
theorem dX9_keep_33 : decode cX9_keep 33 = .ok (.aload_n 0, 1) := by decide +kernel
theorem dX9_keep_34 : decode cX9_keep 34 = .ok (.bipush (-5), 2) := by decide +kernel
theorem dX9_keep_36 : decode cX9_keep 36 = .ok (.invokevirtual 59, 3) := by decide +kernel
theorem dX9_keep_39 : decode cX9_keep 39 = .ok (.ireturn, 1) := by decide +kernel
theorem dX9_keep_40 : decode cX9_keep 40 = .ok (.aload_n 0, 1) := by decide +kernel
theorem dX9_keep_41 : decode cX9_keep 41 = .ok (.getfield 29, 3) := by decide +kernel
theorem dX9_keep_44 : decode cX9_keep 44 = .ok (.iload_n 1, 1) := by decide +kernel
theorem dX9_keep_45 : decode cX9_keep 45 = .ok (.aaload, 1) := by decide +kernel
theorem dX9_keep_46 : decode cX9_keep 46 = .ok (.getfield 223, 3) := by decide +kernel
theorem dX9_keep_49 : decode cX9_keep 49 = .ok (.ifCond .ne 10, 3) := by decide +kernel
theorem dX9_keep_52 : decode cX9_keep 52 = .ok (.aload_n 0, 1) := by decide +kernel
theorem dX9_keep_53 : decode cX9_keep 53 = .ok (.bipush (-6), 2) := by decide +kernel
theorem dX9_keep_55 : decode cX9_keep 55 = .ok (.invokevirtual 59, 3) := by decide +kernel
theorem dX9_keep_58 : decode cX9_keep 58 = .ok (.ireturn, 1) := by decide +kernel
theorem dX9_keep_59 : decode cX9_keep 59 = .ok (.iload_n 2, 1) := by decide +kernel
theorem dX9_keep_60 : decode cX9_keep 60 = .ok (.ifCond .ne 18, 3) := by decide +kernel
theorem dX9_keep_63 : decode cX9_keep 63 = .ok (.aload_n 0, 1) := by decide +kernel
theorem dX9_keep_64 : decode cX9_keep 64 = .ok (.getfield 19, 3) := by decide +kernel
theorem dX9_keep_67 : decode cX9_keep 67 = .ok (.getfield 186, 3) := by decide +kernel
theorem dX9_keep_70 : decode cX9_keep 70 = .ok (.getfield 202, 3) := by decide +kernel
theorem dX9_keep_73 : decode cX9_keep 73 = .ok (.iconst 1, 1) := by decide +kernel
theorem dX9_keep_74 : decode cX9_keep 74 = .ok (.iaload, 1) := by decide +kernel
theorem dX9_keep_75 : decode cX9_keep 75 = .ok (.goto 15, 3) := by decide +kernel
theorem dX9_keep_78 : decode cX9_keep 78 = .ok (.aload_n 0, 1) := by decide +kernel
theorem dX9_keep_79 : decode cX9_keep 79 = .ok (.getfield 19, 3) := by decide +kernel
theorem dX9_keep_82 : decode cX9_keep 82 = .ok (.getfield 186, 3) := by decide +kernel
theorem dX9_keep_85 : decode cX9_keep 85 = .ok (.getfield 202, 3) := by decide +kernel
theorem dX9_keep_88 : decode cX9_keep 88 = .ok (.iconst 0, 1) := by decide +kernel
theorem dX9_keep_89 : decode cX9_keep 89 = .ok (.iaload, 1) := by decide +kernel
theorem dX9_keep_90 : decode cX9_keep 90 = .ok (.istore_n 3, 1) := by decide +kernel
theorem dX9_keep_91 : decode cX9_keep 91 = .ok (.iload_n 3, 1) := by decide +kernel
theorem dX9_keep_92 : decode cX9_keep 92 = .ok (.aload_n 0, 1) := by decide +kernel
