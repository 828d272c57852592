theorem dX9_keep_93 : decode cX9_keep 93 = .ok (.getfield 29, 3) := by decide +kernel
theorem dX9_keep_96 : decode cX9_keep 96 = .ok (.iload_n 1, 1) := by decide +kernel
theorem dX9_keep_97 : decode cX9_keep 97 = .ok (.aaload, 1) := by decide +kernel
theorem dX9_keep_98 : decode cX9_keep 98 = .ok (.getfield 309, 3) := by decide +kernel
theorem dX9_keep_101 : decode cX9_keep 101 = .ok (.invokestatic 254, 3) := by decide +kernel
theorem dX9_keep_104 : decode cX9_keep 104 = .ok (.istore 4, 2) := by decide +kernel
theorem dX9_keep_106 : decode cX9_keep 106 = .ok (.iconst 0, 1) := by decide +kernel
theorem dX9_keep_107 : decode cX9_keep 107 = .ok (.istore 5, 2) := by decide +kernel
theorem dX9_keep_109 : decode cX9_keep 109 = .ok (.iload 5, 2) := by decide +kernel
theorem dX9_keep_111 : decode cX9_keep 111 = .ok (.iload 4, 2) := by decide +kernel
theorem dX9_keep_113 : decode cX9_keep 113 = .ok (.if_icmp .ge 55, 3) := by decide +kernel
theorem dX9_keep_116 : decode cX9_keep 116 = .ok (.aload_n 0, 1) := by decide +kernel
theorem dX9_keep_117 : decode cX9_keep 117 = .ok (.getfield 29, 3) := by decide +kernel
theorem dX9_keep_120 : decode cX9_keep 120 = .ok (.iload_n 1, 1) := by decide +kernel
theorem dX9_keep_121 : decode cX9_keep 121 = .ok (.aaload, 1) := by decide +kernel
theorem dX9_keep_122 : decode cX9_keep 122 = .ok (.iload 5, 2) := by decide +kernel
theorem dX9_keep_124 : decode cX9_keep 124 = .ok (.iload_n 2, 1) := by decide +kernel
theorem dX9_keep_125 : decode cX9_keep 125 = .ok (.ifCond .ne 20, 3) := by decide +kernel
theorem dX9_keep_128 : decode cX9_keep 128 = .ok (.aload_n 0, 1) := by decide +kernel
theorem dX9_keep_129 : decode cX9_keep 129 = .ok (.getfield 19, 3) := by decide +kernel
theorem dX9_keep_132 : decode cX9_keep 132 = .ok (.getfield 186, 3) := by decide +kernel
theorem dX9_keep_135 : decode cX9_keep 135 = .ok (.getfield 211, 3) := by decide +kernel
theorem dX9_keep_138 : decode cX9_keep 138 = .ok (.iload 5, 2) := by decide +kernel
theorem dX9_keep_140 : decode cX9_keep 140 = .ok (.iaload, 1) := by decide +kernel
theorem dX9_keep_141 : decode cX9_keep 141 = .ok (.i2l, 1) := by decide +kernel
theorem dX9_keep_142 : decode cX9_keep 142 = .ok (.goto 16, 3) := by decide +kernel
theorem dX9_keep_145 : decode cX9_keep 145 = .ok (.aload_n 0, 1) := by decide +kernel
theorem dX9_keep_146 : decode cX9_keep 146 = .ok (.getfield 19, 3) := by decide +kernel
theorem dX9_keep_149 : decode cX9_keep 149 = .ok (.getfield 186, 3) := by decide +kernel
theorem dX9_keep_152 : decode cX9_keep 152 = .ok (.iload 5, 2) := by decide +kernel
theorem dX9_keep_154 : decode cX9_keep 154 = .ok (.invokevirtual 315, 3) := by decide +kernel
theorem dX9_keep_157 : decode cX9_keep 157 = .ok (.i2l, 1) := by decide +kernel
theorem dX9_keep_158 : decode cX9_keep 158 = .ok (.invokevirtual 312, 3) := by decide +kernel
theorem dX9_keep_161 : decode cX9_keep 161 = .ok (.pop2, 1) := by decide +kernel
theorem dX9_keep_162 : decode cX9_keep 162 = .ok (.iinc 5 1, 3) := by decide +kernel
theorem dX9_keep_165 : decode cX9_keep 165 = .ok (.goto (-56), 3) := by decide +kernel
theorem dX9_keep_168 : decode cX9_keep 168 = .ok (.iload 4, 2) := by decide +kernel
theorem dX9_keep_170 : decode cX9_keep 170 = .ok (.ireturn, 1) := by decide +kernel
theorem dX9_image_0 : decode cX9_image 0 = .ok (.iload_n 1, 1) := by decide +kernel
theorem dX9_image_1 : decode cX9_image 1 = .ok (.ifCond .lt 8, 3) := by decide +kernel
theorem dX9_image_4 : decode cX9_image 4 = .ok (.iload_n 1, 1) := by decide +kernel
theorem dX9_image_5 : decode cX9_image 5 = .ok (.iconst 2, 1) := by decide +kernel
theorem dX9_image_6 : decode cX9_image 6 = .ok (.if_icmp .lt 10, 3) := by decide +kernel
theorem dX9_image_9 : decode cX9_image 9 = .ok (.aload_n 0, 1) := by decide +kernel
theorem dX9_image_10 : decode cX9_image 10 = .ok (.bipush (-2), 2) := by decide +kernel
theorem dX9_image_12 : decode cX9_image 12 = .ok (.invokevirtual 59, 3) := by decide +kernel
theorem dX9_image_15 : decode cX9_image 15 = .ok (.ireturn, 1) := by decide +kernel
theorem dX9_image_16 : decode cX9_image 16 = .ok (.aload_n 0, 1) := by decide +kernel
theorem dX9_image_17 : decode cX9_image 17 = .ok (.getfield 23, 3) := by decide +kernel
theorem dX9_image_20 : decode cX9_image 20 = .ok (.iload_n 1, 1) := by decide +kernel
theorem dX9_image_21 : decode cX9_image 21 = .ok (.aaload, 1) := by decide +kernel
theorem dX9_image_22 : decode cX9_image 22 = .ok (.aload_n 0, 1) := by decide +kernel
theorem dX9_image_23 : decode cX9_image 23 = .ok (.getfield 19, 3) := by decide +kernel
theorem dX9_image_26 : decode cX9_image 26 = .ok (.invokevirtual 318, 3) := by decide +kernel
theorem dX9_image_29 : decode cX9_image 29 = .ok (.aload_n 0, 1) := by decide +kernel
theorem dX9_image_30 : decode cX9_image 30 = .ok (.getfield 23, 3) := by decide +kernel
theorem dX9_image_33 : decode cX9_image 33 = .ok (.iload_n 1, 1) := by decide +kernel
theorem dX9_image_34 : decode cX9_image 34 = .ok (.aaload, 1) := by decide +kernel
theorem dX9_image_35 : decode cX9_image 35 = .ok (.iconst 1, 1) := by decide +kernel
theorem dX9_image_36 : decode cX9_image 36 = .ok (.putfield 321, 3) := by decide +kernel
theorem dX9_image_39 : decode cX9_image 39 = .ok (.iconst 0, 1) := by decide +kernel
theorem dX9_image_40 : decode cX9_image 40 = .ok (.ireturn, 1) := by decide +kernel
theorem dX9_restore_0 : decode cX9_restore 0 = .ok (.iload_n 1, 1) := by decide +kernel
theorem dX9_restore_1 : decode cX9_restore 1 = .ok (.ifCond .lt 8, 3) := by decide +kernel
theorem dX9_restore_4 : decode cX9_restore 4 = .ok (.iload_n 1, 1) := by decide +kernel
theorem dX9_restore_5 : decode cX9_restore 5 = .ok (.iconst 2, 1) := by decide +kernel
theorem dX9_restore_6 : decode cX9_restore 6 = .ok (.if_icmp .lt 10, 3) := by decide +kernel
theorem dX9_restore_9 : decode cX9_restore 9 = .ok (.aload_n 0, 1) := by decide +kernel
theorem dX9_restore_10 : decode cX9_restore 10 = .ok (.bipush (-2), 2) := by decide +kernel
theorem dX9_restore_12 : decode cX9_restore 12 = .ok (.invokevirtual 59, 3) := by decide +kernel
theorem dX9_restore_15 : decode cX9_restore 15 = .ok (.ireturn, 1) := by decide +kernel
theorem dX9_restore_16 : decode cX9_restore 16 = .ok (.aload_n 0, 1) := by decide +kernel
theorem dX9_restore_17 : decode cX9_restore 17 = .ok (.getfield 23, 3) := by decide +kernel
theorem dX9_restore_20 : decode cX9_restore 20 = .ok (.iload_n 1, 1) := by decide +kernel
theorem dX9_restore_21 : decode cX9_restore 21 = .ok (.aaload, 1) := by decide +kernel
theorem dX9_restore_22 : decode cX9_restore 22 = .ok (.getfield 321, 3) := by decide +kernel
theorem dX9_restore_25 : decode cX9_restore 25 = .ok (.ifCond .ne 10, 3) := by decide +kernel
theorem dX9_restore_28 : decode cX9_restore 28 = .ok (.aload_n 0, 1) := by decide +kernel
theorem dX9_restore_29 : decode cX9_restore 29 = .ok (.bipush (-5), 2) := by decide +kernel
theorem dX9_restore_31 : decode cX9_restore 31 = .ok (.invokevirtual 59, 3) := by decide +kernel
theorem dX9_restore_34 : decode cX9_restore 34 = .ok (.ireturn, 1) := by decide +kernel
theorem dX9_restore_35 : decode cX9_restore 35 = .ok (.aload_n 0, 1) := by decide +kernel
theorem dX9_restore_36 : decode cX9_restore 36 = .ok (.getfield 19, 3) := by decide +kernel
theorem dX9_restore_39 : decode cX9_restore 39 = .ok (.aload_n 0, 1) := by decide +kernel
theorem dX9_restore_40 : decode cX9_restore 40 = .ok (.getfield 23, 3) := by decide +kernel
theorem dX9_restore_43 : decode cX9_restore 43 = .ok (.iload_n 1, 1) := by decide +kernel
theorem dX9_restore_44 : decode cX9_restore 44 = .ok (.aaload, 1) := by decide +kernel
theorem dX9_restore_45 : decode cX9_restore 45 = .ok (.invokevirtual 318, 3) := by decide +kernel
theorem dX9_restore_48 : decode cX9_restore 48 = .ok (.iconst 0, 1) := by decide +kernel
theorem dX9_restore_49 : decode cX9_restore 49 = .ok (.ireturn, 1) := by decide +kernel
theorem dX9_status_0 : decode cX9_status 0 = .ok (.iload_n 1, 1) := by decide +kernel
theorem dX9_status_1 : decode cX9_status 1 = .ok (.tableswitch 50 1 7 #[43, 43, 43, 50, 43, 43, 43], 43) := by decide +kernel
theorem dX9_status_44 : decode cX9_status 44 = .ok (.aload_n 0, 1) := by decide +kernel
theorem dX9_status_45 : decode cX9_status 45 = .ok (.getfield 33, 3) := by decide +kernel
theorem dX9_status_48 : decode cX9_status 48 = .ok (.iload_n 1, 1) := by decide +kernel
theorem dX9_status_49 : decode cX9_status 49 = .ok (.iaload, 1) := by decide +kernel
theorem dX9_status_50 : decode cX9_status 50 = .ok (.ireturn, 1) := by decide +kernel
theorem dX9_status_51 : decode cX9_status 51 = .ok (.iconst (-1), 1) := by decide +kernel
theorem dX9_status_52 : decode cX9_status 52 = .ok (.ireturn, 1) := by decide +kernel
theorem dX9_count_0 : decode cX9_count 0 = .ok (.iload_n 1, 1) := by decide +kernel
theorem dX9_count_1 : decode cX9_count 1 = .ok (.ifCond .ne 11, 3) := by decide +kernel
theorem dX9_count_4 : decode cX9_count 4 = .ok (.aload_n 0, 1) := by decide +kernel
theorem dX9_count_5 : decode cX9_count 5 = .ok (.getfield 10, 3) := by decide +kernel
theorem dX9_count_8 : decode cX9_count 8 = .ok (.getfield 55, 3) := by decide +kernel
theorem dX9_count_11 : decode cX9_count 11 = .ok (.ireturn, 1) := by decide +kernel
theorem dX9_count_12 : decode cX9_count 12 = .ok (.iload_n 1, 1) := by decide +kernel
theorem dX9_count_13 : decode cX9_count 13 = .ok (.iconst 1, 1) := by decide +kernel
theorem dX9_count_14 : decode cX9_count 14 = .ok (.if_icmp .ne 11, 3) := by decide +kernel
theorem dX9_count_17 : decode cX9_count 17 = .ok (.aload_n 0, 1) := by decide +kernel
theorem dX9_count_18 : decode cX9_count 18 = .ok (.getfield 19, 3) := by decide +kernel
theorem dX9_count_21 : decode cX9_count 21 = .ok (.invokevirtual 324, 3) := by decide +kernel
theorem dX9_count_24 : decode cX9_count 24 = .ok (.ireturn, 1) := by decide +kernel
theorem dX9_count_25 : decode cX9_count 25 = .ok (.iload_n 1, 1) := by decide +kernel
theorem dX9_count_26 : decode cX9_count 26 = .ok (.iconst 2, 1) := by decide +kernel
theorem dX9_count_27 : decode cX9_count 27 = .ok (.if_icmp .lt 24, 3) := by decide +kernel
theorem dX9_count_30 : decode cX9_count 30 = .ok (.iload_n 1, 1) := by decide +kernel
theorem dX9_count_31 : decode cX9_count 31 = .ok (.bipush 10, 2) := by decide +kernel
theorem dX9_count_33 : decode cX9_count 33 = .ok (.if_icmp .ge 18, 3) := by decide +kernel
theorem dX9_count_36 : decode cX9_count 36 = .ok (.aload_n 0, 1) := by decide +kernel
theorem dX9_count_37 : decode cX9_count 37 = .ok (.getfield 19, 3) := by decide +kernel
theorem dX9_count_40 : decode cX9_count 40 = .ok (.getfield 117, 3) := by decide +kernel
theorem dX9_count_43 : decode cX9_count 43 = .ok (.getfield 327, 3) := by decide +kernel
theorem dX9_count_46 : decode cX9_count 46 = .ok (.iload_n 1, 1) := by decide +kernel
theorem dX9_count_47 : decode cX9_count 47 = .ok (.iconst 2, 1) := by decide +kernel
theorem dX9_count_48 : decode cX9_count 48 = .ok (.isub, 1) := by decide +kernel
theorem dX9_count_49 : decode cX9_count 49 = .ok (.iaload, 1) := by decide +kernel
theorem dX9_count_50 : decode cX9_count 50 = .ok (.ireturn, 1) := by decide +kernel
theorem dX9_count_51 : decode cX9_count 51 = .ok (.iload_n 1, 1) := by decide +kernel
theorem dX9_count_52 : decode cX9_count 52 = .ok (.bipush 10, 2) := by decide +kernel
theorem dX9_count_54 : decode cX9_count 54 = .ok (.if_icmp .ne 14, 3) := by decide +kernel
theorem dX9_count_57 : decode cX9_count 57 = .ok (.aload_n 0, 1) := by decide +kernel
theorem dX9_count_58 : decode cX9_count 58 = .ok (.getfield 19, 3) := by decide +kernel
theorem dX9_count_61 : decode cX9_count 61 = .ok (.getfield 117, 3) := by decide +kernel
theorem dX9_count_64 : decode cX9_count 64 = .ok (.getfield 330, 3) := by decide +kernel
theorem dX9_count_67 : decode cX9_count 67 = .ok (.ireturn, 1) := by decide +kernel
theorem dX9_count_68 : decode cX9_count 68 = .ok (.iload_n 1, 1) := by decide +kernel
theorem dX9_count_69 : decode cX9_count 69 = .ok (.bipush 11, 2) := by decide +kernel
theorem dX9_count_71 : decode cX9_count 71 = .ok (.if_icmp .ne 14, 3) := by decide +kernel
theorem dX9_count_74 : decode cX9_count 74 = .ok (.aload_n 0, 1) := by decide +kernel
theorem dX9_count_75 : decode cX9_count 75 = .ok (.getfield 19, 3) := by decide +kernel
theorem dX9_count_78 : decode cX9_count 78 = .ok (.getfield 127, 3) := by decide +kernel
theorem dX9_count_81 : decode cX9_count 81 = .ok (.getfield 297, 3) := by decide +kernel
theorem dX9_count_84 : decode cX9_count 84 = .ok (.ireturn, 1) := by decide +kernel
theorem dX9_count_85 : decode cX9_count 85 = .ok (.iload_n 1, 1) := by decide +kernel
theorem dX9_count_86 : decode cX9_count 86 = .ok (.bipush 20, 2) := by decide +kernel
theorem dX9_count_88 : decode cX9_count 88 = .ok (.if_icmp .lt 25, 3) := by decide +kernel
theorem dX9_count_91 : decode cX9_count 91 = .ok (.iload_n 1, 1) := by decide +kernel
theorem dX9_count_92 : decode cX9_count 92 = .ok (.bipush 24, 2) := by decide +kernel
theorem dX9_count_94 : decode cX9_count 94 = .ok (.if_icmp .ge 19, 3) := by decide +kernel
theorem dX9_count_97 : decode cX9_count 97 = .ok (.aload_n 0, 1) := by decide +kernel
theorem dX9_count_98 : decode cX9_count 98 = .ok (.getfield 19, 3) := by decide +kernel
theorem dX9_count_101 : decode cX9_count 101 = .ok (.getfield 105, 3) := by decide +kernel
theorem dX9_count_104 : decode cX9_count 104 = .ok (.iload_n 1, 1) := by decide +kernel
theorem dX9_count_105 : decode cX9_count 105 = .ok (.bipush 20, 2) := by decide +kernel
theorem dX9_count_107 : decode cX9_count 107 = .ok (.isub, 1) := by decide +kernel
theorem dX9_count_108 : decode cX9_count 108 = .ok (.aaload, 1) := by decide +kernel
theorem dX9_count_109 : decode cX9_count 109 = .ok (.getfield 331, 3) := by decide +kernel
theorem dX9_count_112 : decode cX9_count 112 = .ok (.ireturn, 1) := by decide +kernel
theorem dX9_count_113 : decode cX9_count 113 = .ok (.iload_n 1, 1) := by decide +kernel
theorem dX9_count_114 : decode cX9_count 114 = .ok (.bipush 30, 2) := by decide +kernel
theorem dX9_count_116 : decode cX9_count 116 = .ok (.if_icmp .lt 25, 3) := by decide +kernel
theorem dX9_count_119 : decode cX9_count 119 = .ok (.iload_n 1, 1) := by decide +kernel
theorem dX9_count_120 : decode cX9_count 120 = .ok (.bipush 34, 2) := by decide +kernel
theorem dX9_count_122 : decode cX9_count 122 = .ok (.if_icmp .ge 19, 3) := by decide +kernel
theorem dX9_count_125 : decode cX9_count 125 = .ok (.aload_n 0, 1) := by decide +kernel
theorem dX9_count_126 : decode cX9_count 126 = .ok (.getfield 19, 3) := by decide +kernel
theorem dX9_count_129 : decode cX9_count 129 = .ok (.getfield 105, 3) := by decide +kernel
theorem dX9_count_132 : decode cX9_count 132 = .ok (.iload_n 1, 1) := by decide +kernel
theorem dX9_count_133 : decode cX9_count 133 = .ok (.bipush 30, 2) := by decide +kernel
theorem dX9_count_135 : decode cX9_count 135 = .ok (.isub, 1) := by decide +kernel
theorem dX9_count_136 : decode cX9_count 136 = .ok (.aaload, 1) := by decide +kernel
theorem dX9_count_137 : decode cX9_count 137 = .ok (.invokevirtual 332, 3) := by decide +kernel
theorem dX9_count_140 : decode cX9_count 140 = .ok (.ireturn, 1) := by decide +kernel
theorem dX9_count_141 : decode cX9_count 141 = .ok (.iconst (-1), 1) := by decide +kernel
theorem dX9_count_142 : decode cX9_count 142 = .ok (.ireturn, 1) := by decide +kernel
theorem dX9_refuse_0 : decode cX9_refuse 0 = .ok (.aload_n 0, 1) := by decide +kernel
theorem dX9_refuse_1 : decode cX9_refuse 1 = .ok (.getfield 33, 3) := by decide +kernel
theorem dX9_refuse_4 : decode cX9_refuse 4 = .ok (.iload_n 1, 1) := by decide +kernel
theorem dX9_refuse_5 : decode cX9_refuse 5 = .ok (.ineg, 1) := by decide +kernel
theorem dX9_refuse_6 : decode cX9_refuse 6 = .ok (.dup2, 1) := by decide +kernel
theorem dX9_refuse_7 : decode cX9_refuse 7 = .ok (.iaload, 1) := by decide +kernel
theorem dX9_refuse_8 : decode cX9_refuse 8 = .ok (.iconst 1, 1) := by decide +kernel
theorem dX9_refuse_9 : decode cX9_refuse 9 = .ok (.iadd, 1) := by decide +kernel
theorem dX9_refuse_10 : decode cX9_refuse 10 = .ok (.iastore, 1) := by decide +kernel
theorem dX9_refuse_11 : decode cX9_refuse 11 = .ok (.iload_n 1, 1) := by decide +kernel
theorem dX9_refuse_12 : decode cX9_refuse 12 = .ok (.ireturn, 1) := by decide +kernel
theorem dX9_hasRod_0 : decode cX9_hasRod 0 = .ok (.iload_n 1, 1) := by decide +kernel
theorem dX9_hasRod_1 : decode cX9_hasRod 1 = .ok (.ifCond .lt 27, 3) := by decide +kernel
theorem dX9_hasRod_4 : decode cX9_hasRod 4 = .ok (.iload_n 1, 1) := by decide +kernel
theorem dX9_hasRod_5 : decode cX9_hasRod 5 = .ok (.iconst 4, 1) := by decide +kernel
theorem dX9_hasRod_6 : decode cX9_hasRod 6 = .ok (.if_icmp .ge 22, 3) := by decide +kernel
theorem dX9_hasRod_9 : decode cX9_hasRod 9 = .ok (.aload_n 0, 1) := by decide +kernel
theorem dX9_hasRod_10 : decode cX9_hasRod 10 = .ok (.getfield 19, 3) := by decide +kernel
theorem dX9_hasRod_13 : decode cX9_hasRod 13 = .ok (.getfield 94, 3) := by decide +kernel
theorem dX9_hasRod_16 : decode cX9_hasRod 16 = .ok (.iload_n 1, 1) := by decide +kernel
theorem dX9_hasRod_17 : decode cX9_hasRod 17 = .ok (.aaload, 1) := by decide +kernel
theorem dX9_hasRod_18 : decode cX9_hasRod 18 = .ok (.getfield 144, 3) := by decide +kernel
theorem dX9_hasRod_21 : decode cX9_hasRod 21 = .ok (.ifCond .le 7, 3) := by decide +kernel
theorem dX9_hasRod_24 : decode cX9_hasRod 24 = .ok (.iconst 1, 1) := by decide +kernel
theorem dX9_hasRod_25 : decode cX9_hasRod 25 = .ok (.goto 4, 3) := by decide +kernel
theorem dX9_hasRod_28 : decode cX9_hasRod 28 = .ok (.iconst 0, 1) := by decide +kernel
theorem dX9_hasRod_29 : decode cX9_hasRod 29 = .ok (.ireturn, 1) := by decide +kernel
theorem dX9_hasCell_0 : decode cX9_hasCell 0 = .ok (.aload_n 0, 1) := by decide +kernel
theorem dX9_hasCell_1 : decode cX9_hasCell 1 = .ok (.iload_n 1, 1) := by decide +kernel
theorem dX9_hasCell_2 : decode cX9_hasCell 2 = .ok (.invokevirtual 140, 3) := by decide +kernel
theorem dX9_hasCell_5 : decode cX9_hasCell 5 = .ok (.ifCond .eq 27, 3) := by decide +kernel
theorem dX9_hasCell_8 : decode cX9_hasCell 8 = .ok (.iload_n 2, 1) := by decide +kernel
theorem dX9_hasCell_9 : decode cX9_hasCell 9 = .ok (.ifCond .lt 23, 3) := by decide +kernel
theorem dX9_hasCell_12 : decode cX9_hasCell 12 = .ok (.iload_n 2, 1) := by decide +kernel
theorem dX9_hasCell_13 : decode cX9_hasCell 13 = .ok (.aload_n 0, 1) := by decide +kernel
theorem dX9_hasCell_14 : decode cX9_hasCell 14 = .ok (.getfield 19, 3) := by decide +kernel
theorem dX9_hasCell_17 : decode cX9_hasCell 17 = .ok (.getfield 94, 3) := by decide +kernel
theorem dX9_hasCell_20 : decode cX9_hasCell 20 = .ok (.iload_n 1, 1) := by decide +kernel
theorem dX9_hasCell_21 : decode cX9_hasCell 21 = .ok (.aaload, 1) := by decide +kernel
theorem dX9_hasCell_22 : decode cX9_hasCell 22 = .ok (.getfield 144, 3) := by decide +kernel
theorem dX9_hasCell_25 : decode cX9_hasCell 25 = .ok (.if_icmp .ge 7, 3) := by decide +kernel
theorem dX9_hasCell_28 : decode cX9_hasCell 28 = .ok (.iconst 1, 1) := by decide +kernel
theorem dX9_hasCell_29 : decode cX9_hasCell 29 = .ok (.goto 4, 3) := by decide +kernel
theorem dX9_hasCell_32 : decode cX9_hasCell 32 = .ok (.iconst 0, 1) := by decide +kernel
theorem dX9_hasCell_33 : decode cX9_hasCell 33 = .ok (.ireturn, 1) := by decide +kernel
theorem dX9_hasDoings_0 : decode cX9_hasDoings 0 = .ok (.iload_n 0, 1) := by decide +kernel
theorem dX9_hasDoings_1 : decode cX9_hasDoings 1 = .ok (.ifCond .lt 12, 3) := by decide +kernel
theorem dX9_hasDoings_4 : decode cX9_hasDoings 4 = .ok (.iload_n 0, 1) := by decide +kernel
theorem dX9_hasDoings_5 : decode cX9_hasDoings 5 = .ok (.iconst 4, 1) := by decide +kernel
theorem dX9_hasDoings_6 : decode cX9_hasDoings 6 = .ok (.if_icmp .ge 7, 3) := by decide +kernel
theorem dX9_hasDoings_9 : decode cX9_hasDoings 9 = .ok (.iconst 1, 1) := by decide +kernel
theorem dX9_hasDoings_10 : decode cX9_hasDoings 10 = .ok (.goto 4, 3) := by decide +kernel
theorem dX9_hasDoings_13 : decode cX9_hasDoings 13 = .ok (.iconst 0, 1) := by decide +kernel
theorem dX9_hasDoings_14 : decode cX9_hasDoings 14 = .ok (.ireturn, 1) := by decide +kernel
theorem dX9_isRow_0 : decode cX9_isRow 0 = .ok (.iload_n 0, 1) := by decide +kernel
theorem dX9_isRow_1 : decode cX9_isRow 1 = .ok (.ifCond .lt 12, 3) := by decide +kernel
theorem dX9_isRow_4 : decode cX9_isRow 4 = .ok (.iload_n 0, 1) := by decide +kernel
theorem dX9_isRow_5 : decode cX9_isRow 5 = .ok (.iconst 4, 1) := by decide +kernel
theorem dX9_isRow_6 : decode cX9_isRow 6 = .ok (.if_icmp .ge 7, 3) := by decide +kernel
theorem dX9_isRow_9 : decode cX9_isRow 9 = .ok (.iconst 1, 1) := by decide +kernel
theorem dX9_isRow_10 : decode cX9_isRow 10 = .ok (.goto 4, 3) := by decide +kernel
theorem dX9_isRow_13 : decode cX9_isRow 13 = .ok (.iconst 0, 1) := by decide +kernel
theorem dX9_isRow_14 : decode cX9_isRow 14 = .ok (.ireturn, 1) := by decide +kernel
theorem dX9_areSeeds_0 : decode cX9_areSeeds 0 = .ok (.iload_n 0, 1) := by decide +kernel
theorem dX9_areSeeds_1 : decode cX9_areSeeds 1 = .ok (.iconst 1, 1) := by decide +kernel
theorem dX9_areSeeds_2 : decode cX9_areSeeds 2 = .ok (.if_icmp .lt 13, 3) := by decide +kernel
theorem dX9_areSeeds_5 : decode cX9_areSeeds 5 = .ok (.iload_n 0, 1) := by decide +kernel
theorem dX9_areSeeds_6 : decode cX9_areSeeds 6 = .ok (.bipush 100, 2) := by decide +kernel
theorem dX9_areSeeds_8 : decode cX9_areSeeds 8 = .ok (.if_icmp .gt 7, 3) := by decide +kernel
theorem dX9_areSeeds_11 : decode cX9_areSeeds 11 = .ok (.iconst 1, 1) := by decide +kernel
theorem dX9_areSeeds_12 : decode cX9_areSeeds 12 = .ok (.goto 4, 3) := by decide +kernel
theorem dX9_areSeeds_15 : decode cX9_areSeeds 15 = .ok (.iconst 0, 1) := by decide +kernel
theorem dX9_areSeeds_16 : decode cX9_areSeeds 16 = .ok (.ireturn, 1) := by decide +kernel
theorem dX9_isPace_0 : decode cX9_isPace 0 = .ok (.iload_n 0, 1) := by decide +kernel
theorem dX9_isPace_1 : decode cX9_isPace 1 = .ok (.iconst 1, 1) := by decide +kernel
theorem dX9_isPace_2 : decode cX9_isPace 2 = .ok (.if_icmp .lt 13, 3) := by decide +kernel
theorem dX9_isPace_5 : decode cX9_isPace 5 = .ok (.iload_n 0, 1) := by decide +kernel
theorem dX9_isPace_6 : decode cX9_isPace 6 = .ok (.bipush 9, 2) := by decide +kernel
theorem dX9_isPace_8 : decode cX9_isPace 8 = .ok (.if_icmp .gt 7, 3) := by decide +kernel
theorem dX9_isPace_11 : decode cX9_isPace 11 = .ok (.iconst 1, 1) := by decide +kernel
theorem dX9_isPace_12 : decode cX9_isPace 12 = .ok (.goto 4, 3) := by decide +kernel
theorem dX9_isPace_15 : decode cX9_isPace 15 = .ok (.iconst 0, 1) := by decide +kernel
theorem dX9_isPace_16 : decode cX9_isPace 16 = .ok (.ireturn, 1) := by decide +kernel
theorem dX9_codeForPiece_0 : decode cX9_codeForPiece 0 = .ok (.iload_n 1, 1) := by decide +kernel
theorem dX9_codeForPiece_1 : decode cX9_codeForPiece 1 = .ok (.ifCond .ge 6, 3) := by decide +kernel
theorem dX9_codeForPiece_4 : decode cX9_codeForPiece 4 = .ok (.bipush (-2), 2) := by decide +kernel
theorem dX9_codeForPiece_6 : decode cX9_codeForPiece 6 = .ok (.ireturn, 1) := by decide +kernel
theorem dX9_codeForPiece_7 : decode cX9_codeForPiece 7 = .ok (.aload_n 0, 1) := by decide +kernel
theorem dX9_codeForPiece_8 : decode cX9_codeForPiece 8 = .ok (.getfield 19, 3) := by decide +kernel
theorem dX9_codeForPiece_11 : decode cX9_codeForPiece 11 = .ok (.getfield 198, 3) := by decide +kernel
theorem dX9_codeForPiece_14 : decode cX9_codeForPiece 14 = .ok (.ifCond .ne 6, 3) := by decide +kernel
theorem dX9_codeForPiece_17 : decode cX9_codeForPiece 17 = .ok (.bipush (-5), 2) := by decide +kernel
theorem dX9_codeForPiece_19 : decode cX9_codeForPiece 19 = .ok (.ireturn, 1) := by decide +kernel
theorem dX9_codeForPiece_20 : decode cX9_codeForPiece 20 = .ok (.iload_n 1, 1) := by decide +kernel
theorem dX9_codeForPiece_21 : decode cX9_codeForPiece 21 = .ok (.aload_n 0, 1) := by decide +kernel
theorem dX9_codeForPiece_22 : decode cX9_codeForPiece 22 = .ok (.getfield 19, 3) := by decide +kernel
theorem dX9_codeForPiece_25 : decode cX9_codeForPiece 25 = .ok (.getfield 186, 3) := by decide +kernel
theorem dX9_codeForPiece_28 : decode cX9_codeForPiece 28 = .ok (.getfield 202, 3) := by decide +kernel
theorem dX9_codeForPiece_31 : decode cX9_codeForPiece 31 = .ok (.iconst 1, 1) := by decide +kernel
theorem dX9_codeForPiece_32 : decode cX9_codeForPiece 32 = .ok (.iaload, 1) := by decide +kernel
theorem dX9_codeForPiece_33 : decode cX9_codeForPiece 33 = .ok (.if_icmp .ge 7, 3) := by decide +kernel
theorem dX9_codeForPiece_36 : decode cX9_codeForPiece 36 = .ok (.iconst 0, 1) := by decide +kernel
theorem dX9_codeForPiece_37 : decode cX9_codeForPiece 37 = .ok (.goto 5, 3) := by decide +kernel
theorem dX9_codeForPiece_40 : decode cX9_codeForPiece 40 = .ok (.bipush (-2), 2) := by decide +kernel
theorem dX9_codeForPiece_42 : decode cX9_codeForPiece 42 = .ok (.ireturn, 1) := by decide +kernel
theorem dX10_no_0 : decode cX10_no 0 = .ok (.aload_n 0, 1) := by decide +kernel
theorem dX10_no_1 : decode cX10_no 1 = .ok (.getfield 7, 3) := by decide +kernel
theorem dX10_no_4 : decode cX10_no 4 = .ok (.iload_n 1, 1) := by decide +kernel
theorem dX10_no_5 : decode cX10_no 5 = .ok (.ineg, 1) := by decide +kernel
theorem dX10_no_6 : decode cX10_no 6 = .ok (.dup2, 1) := by decide +kernel
theorem dX10_no_7 : decode cX10_no 7 = .ok (.iaload, 1) := by decide +kernel
theorem dX10_no_8 : decode cX10_no 8 = .ok (.iconst 1, 1) := by decide +kernel
theorem dX10_no_9 : decode cX10_no 9 = .ok (.iadd, 1) := by decide +kernel
theorem dX10_no_10 : decode cX10_no 10 = .ok (.iastore, 1) := by decide +kernel
theorem dX10_no_11 : decode cX10_no 11 = .ok (.iload_n 1, 1) := by decide +kernel
theorem dX10_no_12 : decode cX10_no 12 = .ok (.ireturn, 1) := by decide +kernel
theorem dX10_within_0 : decode cX10_within 0 = .ok (.lload_n 0, 1) := by decide +kernel
theorem dX10_within_1 : decode cX10_within 1 = .ok (.lload_n 2, 1) := by decide +kernel
theorem dX10_within_2 : decode cX10_within 2 = .ok (.lcmp, 1) := by decide +kernel
theorem dX10_within_3 : decode cX10_within 3 = .ok (.ifCond .lt 14, 3) := by decide +kernel
theorem dX10_within_6 : decode cX10_within 6 = .ok (.lload_n 0, 1) := by decide +kernel
theorem dX10_within_7 : decode cX10_within 7 = .ok (.lload 4, 2) := by decide +kernel
theorem dX10_within_9 : decode cX10_within 9 = .ok (.lcmp, 1) := by decide +kernel
theorem dX10_within_10 : decode cX10_within 10 = .ok (.ifCond .gt 7, 3) := by decide +kernel
theorem dX10_within_13 : decode cX10_within 13 = .ok (.iconst 1, 1) := by decide +kernel
theorem dX10_within_14 : decode cX10_within 14 = .ok (.goto 4, 3) := by decide +kernel
theorem dX10_within_17 : decode cX10_within 17 = .ok (.iconst 0, 1) := by decide +kernel
theorem dX10_within_18 : decode cX10_within 18 = .ok (.ireturn, 1) := by decide +kernel
theorem dX10_init_0 : decode cX10_init 0 = .ok (.aload_n 0, 1) := by decide +kernel
theorem dX10_init_1 : decode cX10_init 1 = .ok (.invokespecial 11, 3) := by decide +kernel
theorem dX10_init_4 : decode cX10_init 4 = .ok (.aload_n 0, 1) := by decide +kernel
theorem dX10_init_5 : decode cX10_init 5 = .ok (.bipush 8, 2) := by decide +kernel
theorem dX10_init_7 : decode cX10_init 7 = .ok (.newarray .int, 2) := by decide +kernel
theorem dX10_init_9 : decode cX10_init 9 = .ok (.putfield 7, 3) := by decide +kernel
theorem dX10_init_12 : decode cX10_init 12 = .ok (.aload_n 0, 1) := by decide +kernel
theorem dX10_init_13 : decode cX10_init 13 = .ok (.sipush 9159, 3) := by decide +kernel
theorem dX10_init_16 : decode cX10_init 16 = .ok (.newarray .int, 2) := by decide +kernel
theorem dX10_init_18 : decode cX10_init 18 = .ok (.putfield 17, 3) := by decide +kernel
theorem dX10_init_21 : decode cX10_init 21 = .ok (.aload_n 0, 1) := by decide +kernel
theorem dX10_init_22 : decode cX10_init 22 = .ok (.iconst 2, 1) := by decide +kernel
theorem dX10_init_23 : decode cX10_init 23 = .ok (.newarray .boolean, 2) := by decide +kernel
theorem dX10_init_25 : decode cX10_init 25 = .ok (.putfield 20, 3) := by decide +kernel
theorem dX10_init_28 : decode cX10_init 28 = .ok (.aload_n 0, 1) := by decide +kernel
theorem dX10_init_29 : decode cX10_init 29 = .ok (.sipush 400, 3) := by decide +kernel
theorem dX10_init_32 : decode cX10_init 32 = .ok (.newarray .int, 2) := by decide +kernel
theorem dX10_init_34 : decode cX10_init 34 = .ok (.putfield 24, 3) := by decide +kernel
theorem dX10_init_37 : decode cX10_init 37 = .ok (.aload_n 0, 1) := by decide +kernel
theorem dX10_init_38 : decode cX10_init 38 = .ok (.sipush 417, 3) := by decide +kernel
theorem dX10_init_41 : decode cX10_init 41 = .ok (.newarray .int, 2) := by decide +kernel
theorem dX10_init_43 : decode cX10_init 43 = .ok (.putfield 27, 3) := by decide +kernel
theorem dX10_init_46 : decode cX10_init 46 = .ok (.aload_n 0, 1) := by decide +kernel
theorem dX10_init_47 : decode cX10_init 47 = .ok (.iconst (-1), 1) := by decide +kernel
theorem dX10_init_48 : decode cX10_init 48 = .ok (.putfield 30, 3) := by decide +kernel
theorem dX10_init_51 : decode cX10_init 51 = .ok (.aload_n 0, 1) := by decide +kernel
theorem dX10_init_52 : decode cX10_init 52 = .ok (.bipush 60, 2) := by decide +kernel
theorem dX10_init_54 : decode cX10_init 54 = .ok (.newarray .int, 2) := by decide +kernel
theorem dX10_init_56 : decode cX10_init 56 = .ok (.putfield 33, 3) := by decide +kernel
theorem dX10_init_59 : decode cX10_init 59 = .ok (.aload_n 0, 1) := by decide +kernel
theorem dX10_init_60 : decode cX10_init 60 = .ok (.bipush 60, 2) := by decide +kernel
theorem dX10_init_62 : decode cX10_init 62 = .ok (.newarray .int, 2) := by decide +kernel
theorem dX10_init_64 : decode cX10_init 64 = .ok (.putfield 36, 3) := by decide +kernel
theorem dX10_init_67 : decode cX10_init 67 = .ok (.aload_n 0, 1) := by decide +kernel
theorem dX10_init_68 : decode cX10_init 68 = .ok (.bipush 60, 2) := by decide +kernel
theorem dX10_init_70 : decode cX10_init 70 = .ok (.newarray .int, 2) := by decide +kernel
theorem dX10_init_72 : decode cX10_init 72 = .ok (.putfield 39, 3) := by decide +kernel
theorem dX10_init_75 : decode cX10_init 75 = .ok (.aload_n 0, 1) := by decide +kernel
theorem dX10_init_76 : decode cX10_init 76 = .ok (.bipush 60, 2) := by decide +kernel
theorem dX10_init_78 : decode cX10_init 78 = .ok (.newarray .int, 2) := by decide +kernel
theorem dX10_init_80 : decode cX10_init 80 = .ok (.putfield 42, 3) := by decide +kernel
theorem dX10_init_83 : decode cX10_init 83 = .ok (.aload_n 0, 1) := by decide +kernel
theorem dX10_init_84 : decode cX10_init 84 = .ok (.bipush 60, 2) := by decide +kernel
theorem dX10_init_86 : decode cX10_init 86 = .ok (.newarray .int, 2) := by decide +kernel
theorem dX10_init_88 : decode cX10_init 88 = .ok (.putfield 45, 3) := by decide +kernel
theorem dX10_init_91 : decode cX10_init 91 = .ok (.aload_n 0, 1) := by decide +kernel
theorem dX10_init_92 : decode cX10_init 92 = .ok (.bipush 60, 2) := by decide +kernel
theorem dX10_init_94 : decode cX10_init 94 = .ok (.newarray .int, 2) := by decide +kernel
theorem dX10_init_96 : decode cX10_init 96 = .ok (.putfield 48, 3) := by decide +kernel
theorem dX10_init_99 : decode cX10_init 99 = .ok (.aload_n 0, 1) := by decide +kernel
theorem dX10_init_100 : decode cX10_init 100 = .ok (.sipush 4000, 3) := by decide +kernel
theorem dX10_init_103 : decode cX10_init 103 = .ok (.newarray .int, 2) := by decide +kernel
theorem dX10_init_105 : decode cX10_init 105 = .ok (.putfield 51, 3) := by decide +kernel
theorem dX10_init_108 : decode cX10_init 108 = .ok (.aload_n 0, 1) := by decide +kernel
theorem dX10_init_109 : decode cX10_init 109 = .ok (.sipush 4000, 3) := by decide +kernel
theorem dX10_init_112 : decode cX10_init 112 = .ok (.newarray .int, 2) := by decide +kernel
theorem dX10_init_114 : decode cX10_init 114 = .ok (.putfield 54, 3) := by decide +kernel
theorem dX10_init_117 : decode cX10_init 117 = .ok (.aload_n 0, 1) := by decide +kernel
theorem dX10_init_118 : decode cX10_init 118 = .ok (.bipush 12, 2) := by decide +kernel
theorem dX10_init_120 : decode cX10_init 120 = .ok (.newarray .int, 2) := by decide +kernel
theorem dX10_init_122 : decode cX10_init 122 = .ok (.putfield 57, 3) := by decide +kernel
theorem dX10_init_125 : decode cX10_init 125 = .ok (.aload_n 0, 1) := by decide +kernel
theorem dX10_init_126 : decode cX10_init 126 = .ok (.bipush 12, 2) := by decide +kernel
theorem dX10_init_128 : decode cX10_init 128 = .ok (.newarray .int, 2) := by decide +kernel
theorem dX10_init_130 : decode cX10_init 130 = .ok (.putfield 60, 3) := by decide +kernel
theorem dX10_init_133 : decode cX10_init 133 = .ok (.aload_n 0, 1) := by decide +kernel
theorem dX10_init_134 : decode cX10_init 134 = .ok (.bipush 12, 2) := by decide +kernel
theorem dX10_init_136 : decode cX10_init 136 = .ok (.newarray .int, 2) := by decide +kernel
theorem dX10_init_138 : decode cX10_init 138 = .ok (.putfield 63, 3) := by decide +kernel
theorem dX10_init_141 : decode cX10_init 141 = .ok (.aload_n 0, 1) := by decide +kernel
theorem dX10_init_142 : decode cX10_init 142 = .ok (.bipush 60, 2) := by decide +kernel
theorem dX10_init_144 : decode cX10_init 144 = .ok (.newarray .boolean, 2) := by decide +kernel
theorem dX10_init_146 : decode cX10_init 146 = .ok (.putfield 66, 3) := by decide +kernel
theorem dX10_init_149 : decode cX10_init 149 = .ok (.aload_n 0, 1) := by decide +kernel
theorem dX10_init_150 : decode cX10_init 150 = .ok (.bipush 60, 2) := by decide +kernel
theorem dX10_init_152 : decode cX10_init 152 = .ok (.newarray .boolean, 2) := by decide +kernel
theorem dX10_init_154 : decode cX10_init 154 = .ok (.putfield 69, 3) := by decide +kernel
theorem dX10_init_157 : decode cX10_init 157 = .ok (.aload_n 0, 1) := by decide +kernel
theorem dX10_init_158 : decode cX10_init 158 = .ok (.sipush 200, 3) := by decide +kernel
theorem dX10_init_161 : decode cX10_init 161 = .ok (.newarray .boolean, 2) := by decide +kernel
theorem dX10_init_163 : decode cX10_init 163 = .ok (.putfield 72, 3) := by decide +kernel
theorem dX10_init_166 : decode cX10_init 166 = .ok (.aload_n 0, 1) := by decide +kernel
theorem dX10_init_167 : decode cX10_init 167 = .ok (.bipush 60, 2) := by decide +kernel
theorem dX10_init_169 : decode cX10_init 169 = .ok (.newarray .int, 2) := by decide +kernel
theorem dX10_init_171 : decode cX10_init 171 = .ok (.putfield 75, 3) := by decide +kernel
theorem dX10_init_174 : decode cX10_init 174 = .ok (.aload_n 0, 1) := by decide +kernel
theorem dX10_init_175 : decode cX10_init 175 = .ok (.bipush 60, 2) := by decide +kernel
theorem dX10_init_177 : decode cX10_init 177 = .ok (.newarray .int, 2) := by decide +kernel
theorem dX10_init_179 : decode cX10_init 179 = .ok (.putfield 78, 3) := by decide +kernel
theorem dX10_init_182 : decode cX10_init 182 = .ok (.aload_n 0, 1) := by decide +kernel
theorem dX10_init_183 : decode cX10_init 183 = .ok (.bipush 60, 2) := by decide +kernel
theorem dX10_init_185 : decode cX10_init 185 = .ok (.newarray .int, 2) := by decide +kernel
theorem dX10_init_187 : decode cX10_init 187 = .ok (.putfield 81, 3) := by decide +kernel
theorem dX10_init_190 : decode cX10_init 190 = .ok (.aload_n 0, 1) := by decide +kernel
theorem dX10_init_191 : decode cX10_init 191 = .ok (.bipush 60, 2) := by decide +kernel
theorem dX10_init_193 : decode cX10_init 193 = .ok (.newarray .int, 2) := by decide +kernel
theorem dX10_init_195 : decode cX10_init 195 = .ok (.putfield 84, 3) := by decide +kernel
theorem dX10_init_198 : decode cX10_init 198 = .ok (.aload_n 0, 1) := by decide +kernel
theorem dX10_init_199 : decode cX10_init 199 = .ok (.bipush 61, 2) := by decide +kernel
theorem dX10_init_201 : decode cX10_init 201 = .ok (.newarray .int, 2) := by decide +kernel
theorem dX10_init_203 : decode cX10_init 203 = .ok (.putfield 87, 3) := by decide +kernel
theorem dX10_init_206 : decode cX10_init 206 = .ok (.aload_n 0, 1) := by decide +kernel
theorem dX10_init_207 : decode cX10_init 207 = .ok (.sipush 200, 3) := by decide +kernel
theorem dX10_init_210 : decode cX10_init 210 = .ok (.newarray .int, 2) := by decide +kernel
theorem dX10_init_212 : decode cX10_init 212 = .ok (.putfield 90, 3) := by decide +kernel
theorem dX10_init_215 : decode cX10_init 215 = .ok (.aload_n 0, 1) := by decide +kernel
theorem dX10_init_216 : decode cX10_init 216 = .ok (.sipush 200, 3) := by decide +kernel
theorem dX10_init_219 : decode cX10_init 219 = .ok (.newarray .int, 2) := by decide +kernel
theorem dX10_init_221 : decode cX10_init 221 = .ok (.putfield 93, 3) := by decide +kernel
theorem dX10_init_224 : decode cX10_init 224 = .ok (.aload_n 0, 1) := by decide +kernel
theorem dX10_init_225 : decode cX10_init 225 = .ok (.sipush 200, 3) := by decide +kernel
theorem dX10_init_228 : decode cX10_init 228 = .ok (.newarray .int, 2) := by decide +kernel
theorem dX10_init_230 : decode cX10_init 230 = .ok (.putfield 96, 3) := by decide +kernel
theorem dX10_init_233 : decode cX10_init 233 = .ok (.aload_n 0, 1) := by decide +kernel
theorem dX10_init_234 : decode cX10_init 234 = .ok (.sipush 200, 3) := by decide +kernel
theorem dX10_init_237 : decode cX10_init 237 = .ok (.newarray .int, 2) := by decide +kernel
theorem dX10_init_239 : decode cX10_init 239 = .ok (.putfield 99, 3) := by decide +kernel
theorem dX10_init_242 : decode cX10_init 242 = .ok (.aload_n 0, 1) := by decide +kernel
theorem dX10_init_243 : decode cX10_init 243 = .ok (.sipush 200, 3) := by decide +kernel
theorem dX10_init_246 : decode cX10_init 246 = .ok (.newarray .int, 2) := by decide +kernel
theorem dX10_init_248 : decode cX10_init 248 = .ok (.putfield 102, 3) := by decide +kernel
theorem dX10_init_251 : decode cX10_init 251 = .ok (.aload_n 0, 1) := by decide +kernel
theorem dX10_init_252 : decode cX10_init 252 = .ok (.sipush 200, 3) := by decide +kernel
theorem dX10_init_255 : decode cX10_init 255 = .ok (.newarray .int, 2) := by decide +kernel
theorem dX10_init_257 : decode cX10_init 257 = .ok (.putfield 105, 3) := by decide +kernel
theorem dX10_init_260 : decode cX10_init 260 = .ok (.aload_n 0, 1) := by decide +kernel
theorem dX10_init_261 : decode cX10_init 261 = .ok (.sipush 200, 3) := by decide +kernel
theorem dX10_init_264 : decode cX10_init 264 = .ok (.newarray .int, 2) := by decide +kernel
theorem dX10_init_266 : decode cX10_init 266 = .ok (.putfield 108, 3) := by decide +kernel
theorem dX10_init_269 : decode cX10_init 269 = .ok (.aload_n 0, 1) := by decide +kernel
theorem dX10_init_270 : decode cX10_init 270 = .ok (.sipush 220, 3) := by decide +kernel
theorem dX10_init_273 : decode cX10_init 273 = .ok (.newarray .boolean, 2) := by decide +kernel
theorem dX10_init_275 : decode cX10_init 275 = .ok (.putfield 111, 3) := by decide +kernel
theorem dX10_init_278 : decode cX10_init 278 = .ok (.aload_n 0, 1) := by decide +kernel
theorem dX10_init_279 : decode cX10_init 279 = .ok (.iconst 4, 1) := by decide +kernel
theorem dX10_init_280 : decode cX10_init 280 = .ok (.newarray .int, 2) := by decide +kernel
theorem dX10_init_282 : decode cX10_init 282 = .ok (.dup, 1) := by decide +kernel
theorem dX10_init_283 : decode cX10_init 283 = .ok (.iconst 0, 1) := by decide +kernel
theorem dX10_init_284 : decode cX10_init 284 = .ok (.iconst (-1), 1) := by decide +kernel
theorem dX10_init_285 : decode cX10_init 285 = .ok (.iastore, 1) := by decide +kernel
theorem dX10_init_286 : decode cX10_init 286 = .ok (.dup, 1) := by decide +kernel
theorem dX10_init_287 : decode cX10_init 287 = .ok (.iconst 1, 1) := by decide +kernel
theorem dX10_init_288 : decode cX10_init 288 = .ok (.iconst (-1), 1) := by decide +kernel
theorem dX10_init_289 : decode cX10_init 289 = .ok (.iastore, 1) := by decide +kernel
theorem dX10_init_290 : decode cX10_init 290 = .ok (.dup, 1) := by decide +kernel
theorem dX10_init_291 : decode cX10_init 291 = .ok (.iconst 2, 1) := by decide +kernel
theorem dX10_init_292 : decode cX10_init 292 = .ok (.iconst (-1), 1) := by decide +kernel
theorem dX10_init_293 : decode cX10_init 293 = .ok (.iastore, 1) := by decide +kernel
theorem dX10_init_294 : decode cX10_init 294 = .ok (.dup, 1) := by decide +kernel
theorem dX10_init_295 : decode cX10_init 295 = .ok (.iconst 3, 1) := by decide +kernel
theorem dX10_init_296 : decode cX10_init 296 = .ok (.iconst (-1), 1) := by decide +kernel
theorem dX10_init_297 : decode cX10_init 297 = .ok (.iastore, 1) := by decide +kernel
theorem dX10_init_298 : decode cX10_init 298 = .ok (.putfield 114, 3) := by decide +kernel
theorem dX10_init_301 : decode cX10_init 301 = .ok (.aload_n 0, 1) := by decide +kernel
theorem dX10_init_302 : decode cX10_init 302 = .ok (.iconst 4, 1) := by decide +kernel
theorem dX10_init_303 : decode cX10_init 303 = .ok (.newarray .int, 2) := by decide +kernel
theorem dX10_init_305 : decode cX10_init 305 = .ok (.putfield 117, 3) := by decide +kernel
theorem dX10_init_308 : decode cX10_init 308 = .ok (.aload_n 0, 1) := by decide +kernel
theorem dX10_init_309 : decode cX10_init 309 = .ok (.sipush 240, 3) := by decide +kernel
theorem dX10_init_312 : decode cX10_init 312 = .ok (.newarray .long, 2) := by decide +kernel
theorem dX10_init_314 : decode cX10_init 314 = .ok (.putfield 120, 3) := by decide +kernel
theorem dX10_init_317 : decode cX10_init 317 = .ok (.aload_n 0, 1) := by decide +kernel
theorem dX10_init_318 : decode cX10_init 318 = .ok (.iconst 0, 1) := by decide +kernel
theorem dX10_init_319 : decode cX10_init 319 = .ok (.invokevirtual 124, 3) := by decide +kernel
theorem dX10_init_322 : decode cX10_init 322 = .ok (.return_, 1) := by decide +kernel
theorem dX10_plainLaw_0 : decode cX10_plainLaw 0 = .ok (.sipush 1116, 3) := by decide +kernel
theorem dX10_plainLaw_3 : decode cX10_plainLaw 3 = .ok (.istore_n 2, 1) := by decide +kernel
theorem dX10_plainLaw_4 : decode cX10_plainLaw 4 = .ok (.iload_n 2, 1) := by decide +kernel
theorem dX10_plainLaw_5 : decode cX10_plainLaw 5 = .ok (.sipush 1124, 3) := by decide +kernel
theorem dX10_plainLaw_8 : decode cX10_plainLaw 8 = .ok (.if_icmp .gt 105, 3) := by decide +kernel
theorem dX10_plainLaw_11 : decode cX10_plainLaw 11 = .ok (.iload_n 2, 1) := by decide +kernel
theorem dX10_plainLaw_12 : decode cX10_plainLaw 12 = .ok (.sipush 1116, 3) := by decide +kernel
theorem dX10_plainLaw_15 : decode cX10_plainLaw 15 = .ok (.if_icmp .ne 8, 3) := by decide +kernel
theorem dX10_plainLaw_18 : decode cX10_plainLaw 18 = .ok (.bipush 100, 2) := by decide +kernel
theorem dX10_plainLaw_20 : decode cX10_plainLaw 20 = .ok (.goto 61, 3) := by decide +kernel
theorem dX10_plainLaw_23 : decode cX10_plainLaw 23 = .ok (.iload_n 2, 1) := by decide +kernel
theorem dX10_plainLaw_24 : decode cX10_plainLaw 24 = .ok (.sipush 1117, 3) := by decide +kernel
theorem dX10_plainLaw_27 : decode cX10_plainLaw 27 = .ok (.if_icmp .ne 7, 3) := by decide +kernel
theorem dX10_plainLaw_30 : decode cX10_plainLaw 30 = .ok (.iconst 5, 1) := by decide +kernel
theorem dX10_plainLaw_31 : decode cX10_plainLaw 31 = .ok (.goto 50, 3) := by decide +kernel
theorem dX10_plainLaw_34 : decode cX10_plainLaw 34 = .ok (.iload_n 2, 1) := by decide +kernel
theorem dX10_plainLaw_35 : decode cX10_plainLaw 35 = .ok (.sipush 1118, 3) := by decide +kernel
theorem dX10_plainLaw_38 : decode cX10_plainLaw 38 = .ok (.if_icmp .ne 7, 3) := by decide +kernel
theorem dX10_plainLaw_41 : decode cX10_plainLaw 41 = .ok (.iconst 2, 1) := by decide +kernel
theorem dX10_plainLaw_42 : decode cX10_plainLaw 42 = .ok (.goto 39, 3) := by decide +kernel
theorem dX10_plainLaw_45 : decode cX10_plainLaw 45 = .ok (.iload_n 2, 1) := by decide +kernel
theorem dX10_plainLaw_46 : decode cX10_plainLaw 46 = .ok (.sipush 1119, 3) := by decide +kernel
theorem dX10_plainLaw_49 : decode cX10_plainLaw 49 = .ok (.if_icmp .ne 7, 3) := by decide +kernel
theorem dX10_plainLaw_52 : decode cX10_plainLaw 52 = .ok (.iconst 1, 1) := by decide +kernel
theorem dX10_plainLaw_53 : decode cX10_plainLaw 53 = .ok (.goto 28, 3) := by decide +kernel
theorem dX10_plainLaw_56 : decode cX10_plainLaw 56 = .ok (.iload_n 2, 1) := by decide +kernel
theorem dX10_plainLaw_57 : decode cX10_plainLaw 57 = .ok (.sipush 1120, 3) := by decide +kernel
theorem dX10_plainLaw_60 : decode cX10_plainLaw 60 = .ok (.if_icmp .ne 8, 3) := by decide +kernel
theorem dX10_plainLaw_63 : decode cX10_plainLaw 63 = .ok (.bipush 50, 2) := by decide +kernel
theorem dX10_plainLaw_65 : decode cX10_plainLaw 65 = .ok (.goto 16, 3) := by decide +kernel
theorem dX10_plainLaw_68 : decode cX10_plainLaw 68 = .ok (.iload_n 2, 1) := by decide +kernel
theorem dX10_plainLaw_69 : decode cX10_plainLaw 69 = .ok (.sipush 1122, 3) := by decide +kernel
theorem dX10_plainLaw_72 : decode cX10_plainLaw 72 = .ok (.if_icmp .ne 8, 3) := by decide +kernel
theorem dX10_plainLaw_75 : decode cX10_plainLaw 75 = .ok (.bipush 20, 2) := by decide +kernel
theorem dX10_plainLaw_77 : decode cX10_plainLaw 77 = .ok (.goto 4, 3) := by decide +kernel
theorem dX10_plainLaw_80 : decode cX10_plainLaw 80 = .ok (.iconst 0, 1) := by decide +kernel
theorem dX10_plainLaw_81 : decode cX10_plainLaw 81 = .ok (.istore_n 3, 1) := by decide +kernel
theorem dX10_plainLaw_82 : decode cX10_plainLaw 82 = .ok (.iload_n 1, 1) := by decide +kernel
theorem dX10_plainLaw_83 : decode cX10_plainLaw 83 = .ok (.ifCond .ne 13, 3) := by decide +kernel
theorem dX10_plainLaw_86 : decode cX10_plainLaw 86 = .ok (.aload_n 0, 1) := by decide +kernel
theorem dX10_plainLaw_87 : decode cX10_plainLaw 87 = .ok (.getfield 17, 3) := by decide +kernel
theorem dX10_plainLaw_90 : decode cX10_plainLaw 90 = .ok (.iload_n 2, 1) := by decide +kernel
theorem dX10_plainLaw_91 : decode cX10_plainLaw 91 = .ok (.iload_n 3, 1) := by decide +kernel
theorem dX10_plainLaw_92 : decode cX10_plainLaw 92 = .ok (.iastore, 1) := by decide +kernel
theorem dX10_plainLaw_93 : decode cX10_plainLaw 93 = .ok (.goto 14, 3) := by decide +kernel
theorem dX10_plainLaw_96 : decode cX10_plainLaw 96 = .ok (.aload_n 0, 1) := by decide +kernel
theorem dX10_plainLaw_97 : decode cX10_plainLaw 97 = .ok (.getfield 27, 3) := by decide +kernel
theorem dX10_plainLaw_100 : decode cX10_plainLaw 100 = .ok (.iload_n 2, 1) := by decide +kernel
theorem dX10_plainLaw_101 : decode cX10_plainLaw 101 = .ok (.sipush 1116, 3) := by decide +kernel
theorem dX10_plainLaw_104 : decode cX10_plainLaw 104 = .ok (.isub, 1) := by decide +kernel
theorem dX10_plainLaw_105 : decode cX10_plainLaw 105 = .ok (.iload_n 3, 1) := by decide +kernel
theorem dX10_plainLaw_106 : decode cX10_plainLaw 106 = .ok (.iastore, 1) := by decide +kernel
theorem dX10_plainLaw_107 : decode cX10_plainLaw 107 = .ok (.iinc 2 1, 3) := by decide +kernel
theorem dX10_plainLaw_110 : decode cX10_plainLaw 110 = .ok (.goto (-106), 3) := by decide +kernel
theorem dX10_plainLaw_113 : decode cX10_plainLaw 113 = .ok (.return_, 1) := by decide +kernel
theorem dX10_feed_0 : decode cX10_feed 0 = .ok (.aload_n 0, 1) := by decide +kernel
theorem dX10_feed_1 : decode cX10_feed 1 = .ok (.iconst 0, 1) := by decide +kernel
theorem dX10_feed_2 : decode cX10_feed 2 = .ok (.putfield 1, 3) := by decide +kernel
theorem dX10_feed_5 : decode cX10_feed 5 = .ok (.aload_n 0, 1) := by decide +kernel
theorem dX10_feed_6 : decode cX10_feed 6 = .ok (.getfield 128, 3) := by decide +kernel
theorem dX10_feed_9 : decode cX10_feed 9 = .ok (.bipush 20, 2) := by decide +kernel
theorem dX10_feed_11 : decode cX10_feed 11 = .ok (.iadd, 1) := by decide +kernel
theorem dX10_feed_12 : decode cX10_feed 12 = .ok (.sipush 400, 3) := by decide +kernel
theorem dX10_feed_15 : decode cX10_feed 15 = .ok (.if_icmp .le 10, 3) := by decide +kernel
theorem dX10_feed_18 : decode cX10_feed 18 = .ok (.aload_n 0, 1) := by decide +kernel
theorem dX10_feed_19 : decode cX10_feed 19 = .ok (.bipush (-5), 2) := by decide +kernel
theorem dX10_feed_21 : decode cX10_feed 21 = .ok (.invokevirtual 131, 3) := by decide +kernel
theorem dX10_feed_24 : decode cX10_feed 24 = .ok (.ireturn, 1) := by decide +kernel
theorem dX10_feed_25 : decode cX10_feed 25 = .ok (.iconst 0, 1) := by decide +kernel
theorem dX10_feed_26 : decode cX10_feed 26 = .ok (.istore 6, 2) := by decide +kernel
theorem dX10_feed_28 : decode cX10_feed 28 = .ok (.iload 6, 2) := by decide +kernel
theorem dX10_feed_30 : decode cX10_feed 30 = .ok (.bipush 20, 2) := by decide +kernel
theorem dX10_feed_32 : decode cX10_feed 32 = .ok (.if_icmp .ge 93, 3) := by decide +kernel
theorem dX10_feed_35 : decode cX10_feed 35 = .ok (.iload 6, 2) := by decide +kernel
theorem dX10_feed_37 : decode cX10_feed 37 = .ok (.iconst 4, 1) := by decide +kernel
theorem dX10_feed_38 : decode cX10_feed 38 = .ok (.if_icmp .ge 7, 3) := by decide +kernel
theorem dX10_feed_41 : decode cX10_feed 41 = .ok (.iload_n 1, 1) := by decide +kernel
theorem dX10_feed_42 : decode cX10_feed 42 = .ok (.goto 39, 3) := by decide +kernel
theorem dX10_feed_45 : decode cX10_feed 45 = .ok (.iload 6, 2) := by decide +kernel
theorem dX10_feed_47 : decode cX10_feed 47 = .ok (.bipush 8, 2) := by decide +kernel
theorem dX10_feed_49 : decode cX10_feed 49 = .ok (.if_icmp .ge 7, 3) := by decide +kernel
theorem dX10_feed_52 : decode cX10_feed 52 = .ok (.iload_n 2, 1) := by decide +kernel
theorem dX10_feed_53 : decode cX10_feed 53 = .ok (.goto 28, 3) := by decide +kernel
theorem dX10_feed_56 : decode cX10_feed 56 = .ok (.iload 6, 2) := by decide +kernel
theorem dX10_feed_58 : decode cX10_feed 58 = .ok (.bipush 12, 2) := by decide +kernel
theorem dX10_feed_60 : decode cX10_feed 60 = .ok (.if_icmp .ge 7, 3) := by decide +kernel
theorem dX10_feed_63 : decode cX10_feed 63 = .ok (.iload_n 3, 1) := by decide +kernel
theorem dX10_feed_64 : decode cX10_feed 64 = .ok (.goto 17, 3) := by decide +kernel
theorem dX10_feed_67 : decode cX10_feed 67 = .ok (.iload 6, 2) := by decide +kernel
theorem dX10_feed_69 : decode cX10_feed 69 = .ok (.bipush 16, 2) := by decide +kernel
theorem dX10_feed_71 : decode cX10_feed 71 = .ok (.if_icmp .ge 8, 3) := by decide +kernel
theorem dX10_feed_74 : decode cX10_feed 74 = .ok (.iload 4, 2) := by decide +kernel
theorem dX10_feed_76 : decode cX10_feed 76 = .ok (.goto 5, 3) := by decide +kernel
theorem dX10_feed_79 : decode cX10_feed 79 = .ok (.iload 5, 2) := by decide +kernel
theorem dX10_feed_81 : decode cX10_feed 81 = .ok (.istore 7, 2) := by decide +kernel
theorem dX10_feed_83 : decode cX10_feed 83 = .ok (.aload_n 0, 1) := by decide +kernel
theorem dX10_feed_84 : decode cX10_feed 84 = .ok (.getfield 24, 3) := by decide +kernel
theorem dX10_feed_87 : decode cX10_feed 87 = .ok (.aload_n 0, 1) := by decide +kernel
theorem dX10_feed_88 : decode cX10_feed 88 = .ok (.getfield 128, 3) := by decide +kernel
theorem dX10_feed_91 : decode cX10_feed 91 = .ok (.iload 7, 2) := by decide +kernel
theorem dX10_feed_93 : decode cX10_feed 93 = .ok (.bipush 24, 2) := by decide +kernel
theorem dX10_feed_95 : decode cX10_feed 95 = .ok (.bipush 8, 2) := by decide +kernel
theorem dX10_feed_97 : decode cX10_feed 97 = .ok (.iload 6, 2) := by decide +kernel
theorem dX10_feed_99 : decode cX10_feed 99 = .ok (.iconst 4, 1) := by decide +kernel
theorem dX10_feed_100 : decode cX10_feed 100 = .ok (.irem, 1) := by decide +kernel
theorem dX10_feed_101 : decode cX10_feed 101 = .ok (.imul, 1) := by decide +kernel
theorem dX10_feed_102 : decode cX10_feed 102 = .ok (.isub, 1) := by decide +kernel
theorem dX10_feed_103 : decode cX10_feed 103 = .ok (.ishr, 1) := by decide +kernel
theorem dX10_feed_104 : decode cX10_feed 104 = .ok (.sipush 255, 3) := by decide +kernel
theorem dX10_feed_107 : decode cX10_feed 107 = .ok (.iand, 1) := by decide +kernel
theorem dX10_feed_108 : decode cX10_feed 108 = .ok (.iastore, 1) := by decide +kernel
theorem dX10_feed_109 : decode cX10_feed 109 = .ok (.aload_n 0, 1) := by decide +kernel
theorem dX10_feed_110 : decode cX10_feed 110 = .ok (.dup, 1) := by decide +kernel
theorem dX10_feed_111 : decode cX10_feed 111 = .ok (.getfield 128, 3) := by decide +kernel
theorem dX10_feed_114 : decode cX10_feed 114 = .ok (.iconst 1, 1) := by decide +kernel
theorem dX10_feed_115 : decode cX10_feed 115 = .ok (.iadd, 1) := by decide +kernel
theorem dX10_feed_116 : decode cX10_feed 116 = .ok (.putfield 128, 3) := by decide +kernel
theorem dX10_feed_119 : decode cX10_feed 119 = .ok (.iinc 6 1, 3) := by decide +kernel
theorem dX10_feed_122 : decode cX10_feed 122 = .ok (.goto (-94), 3) := by decide +kernel
theorem dX10_feed_125 : decode cX10_feed 125 = .ok (.aload_n 0, 1) := by decide +kernel
theorem dX10_feed_126 : decode cX10_feed 126 = .ok (.getfield 128, 3) := by decide +kernel
theorem dX10_feed_129 : decode cX10_feed 129 = .ok (.ireturn, 1) := by decide +kernel
theorem dX10_see_0 : decode cX10_see 0 = .ok (.iload_n 1, 1) := by decide +kernel
theorem dX10_see_1 : decode cX10_see 1 = .ok (.aload_n 0, 1) := by decide +kernel
theorem dX10_see_2 : decode cX10_see 2 = .ok (.getfield 135, 3) := by decide +kernel
theorem dX10_see_5 : decode cX10_see 5 = .ok (.if_icmp .ge 12, 3) := by decide +kernel
theorem dX10_see_8 : decode cX10_see 8 = .ok (.aload_n 0, 1) := by decide +kernel
theorem dX10_see_9 : decode cX10_see 9 = .ok (.getfield 24, 3) := by decide +kernel
theorem dX10_see_12 : decode cX10_see 12 = .ok (.iload_n 1, 1) := by decide +kernel
theorem dX10_see_13 : decode cX10_see 13 = .ok (.iaload, 1) := by decide +kernel
theorem dX10_see_14 : decode cX10_see 14 = .ok (.goto 4, 3) := by decide +kernel
theorem dX10_see_17 : decode cX10_see 17 = .ok (.iconst (-1), 1) := by decide +kernel
theorem dX10_see_18 : decode cX10_see 18 = .ok (.ireturn, 1) := by decide +kernel
theorem dX10_isSmall_0 : decode cX10_isSmall 0 = .ok (.iload_n 0, 1) := by decide +kernel
theorem dX10_isSmall_1 : decode cX10_isSmall 1 = .ok (.bipush 97, 2) := by decide +kernel
theorem dX10_isSmall_3 : decode cX10_isSmall 3 = .ok (.if_icmp .lt 13, 3) := by decide +kernel
theorem dX10_isSmall_6 : decode cX10_isSmall 6 = .ok (.iload_n 0, 1) := by decide +kernel
theorem dX10_isSmall_7 : decode cX10_isSmall 7 = .ok (.bipush 122, 2) := by decide +kernel
theorem dX10_isSmall_9 : decode cX10_isSmall 9 = .ok (.if_icmp .gt 7, 3) := by decide +kernel
theorem dX10_isSmall_12 : decode cX10_isSmall 12 = .ok (.iconst 1, 1) := by decide +kernel
theorem dX10_isSmall_13 : decode cX10_isSmall 13 = .ok (.goto 4, 3) := by decide +kernel
theorem dX10_isSmall_16 : decode cX10_isSmall 16 = .ok (.iconst 0, 1) := by decide +kernel
theorem dX10_isSmall_17 : decode cX10_isSmall 17 = .ok (.ireturn, 1) := by decide +kernel
theorem dX10_isDigit_0 : decode cX10_isDigit 0 = .ok (.iload_n 0, 1) := by decide +kernel
theorem dX10_isDigit_1 : decode cX10_isDigit 1 = .ok (.bipush 48, 2) := by decide +kernel
theorem dX10_isDigit_3 : decode cX10_isDigit 3 = .ok (.if_icmp .lt 13, 3) := by decide +kernel
theorem dX10_isDigit_6 : decode cX10_isDigit 6 = .ok (.iload_n 0, 1) := by decide +kernel
theorem dX10_isDigit_7 : decode cX10_isDigit 7 = .ok (.bipush 57, 2) := by decide +kernel
theorem dX10_isDigit_9 : decode cX10_isDigit 9 = .ok (.if_icmp .gt 7, 3) := by decide +kernel
theorem dX10_isDigit_12 : decode cX10_isDigit 12 = .ok (.iconst 1, 1) := by decide +kernel
theorem dX10_isDigit_13 : decode cX10_isDigit 13 = .ok (.goto 4, 3) := by decide +kernel
theorem dX10_isDigit_16 : decode cX10_isDigit 16 = .ok (.iconst 0, 1) := by decide +kernel
theorem dX10_isDigit_17 : decode cX10_isDigit 17 = .ok (.ireturn, 1) := by decide +kernel
theorem dX10_keyAt_0 : decode cX10_keyAt 0 = .ok (.iconst 0, 1) := by decide +kernel
theorem dX10_keyAt_1 : decode cX10_keyAt 1 = .ok (.istore_n 1, 1) := by decide +kernel
theorem dX10_keyAt_2 : decode cX10_keyAt 2 = .ok (.iconst 1, 1) := by decide +kernel
theorem dX10_keyAt_3 : decode cX10_keyAt 3 = .ok (.istore_n 2, 1) := by decide +kernel
theorem dX10_keyAt_4 : decode cX10_keyAt 4 = .ok (.iload_n 2, 1) := by decide +kernel
theorem dX10_keyAt_5 : decode cX10_keyAt 5 = .ok (.ldc 138, 2) := by decide +kernel
theorem dX10_keyAt_7 : decode cX10_keyAt 7 = .ok (.invokevirtual 140, 3) := by decide +kernel
theorem dX10_keyAt_10 : decode cX10_keyAt 10 = .ok (.if_icmp .ge 113, 3) := by decide +kernel
theorem dX10_keyAt_13 : decode cX10_keyAt 13 = .ok (.iconst 0, 1) := by decide +kernel
theorem dX10_keyAt_14 : decode cX10_keyAt 14 = .ok (.istore_n 3, 1) := by decide +kernel
theorem dX10_keyAt_15 : decode cX10_keyAt 15 = .ok (.ldc 138, 2) := by decide +kernel
theorem dX10_keyAt_17 : decode cX10_keyAt 17 = .ok (.iload_n 2, 1) := by decide +kernel
theorem dX10_keyAt_18 : decode cX10_keyAt 18 = .ok (.iload_n 3, 1) := by decide +kernel
theorem dX10_keyAt_19 : decode cX10_keyAt 19 = .ok (.iadd, 1) := by decide +kernel
theorem dX10_keyAt_20 : decode cX10_keyAt 20 = .ok (.invokevirtual 146, 3) := by decide +kernel
theorem dX10_keyAt_23 : decode cX10_keyAt 23 = .ok (.bipush 32, 2) := by decide +kernel
theorem dX10_keyAt_25 : decode cX10_keyAt 25 = .ok (.if_icmp .eq 44, 3) := by decide +kernel
theorem dX10_keyAt_28 : decode cX10_keyAt 28 = .ok (.aload_n 0, 1) := by decide +kernel
theorem dX10_keyAt_29 : decode cX10_keyAt 29 = .ok (.getfield 150, 3) := by decide +kernel
theorem dX10_keyAt_32 : decode cX10_keyAt 32 = .ok (.iload_n 3, 1) := by decide +kernel
theorem dX10_keyAt_33 : decode cX10_keyAt 33 = .ok (.iadd, 1) := by decide +kernel
theorem dX10_keyAt_34 : decode cX10_keyAt 34 = .ok (.aload_n 0, 1) := by decide +kernel
theorem dX10_keyAt_35 : decode cX10_keyAt 35 = .ok (.getfield 153, 3) := by decide +kernel
theorem dX10_keyAt_38 : decode cX10_keyAt 38 = .ok (.if_icmp .ge 31, 3) := by decide +kernel
theorem dX10_keyAt_41 : decode cX10_keyAt 41 = .ok (.aload_n 0, 1) := by decide +kernel
theorem dX10_keyAt_42 : decode cX10_keyAt 42 = .ok (.getfield 24, 3) := by decide +kernel
theorem dX10_keyAt_45 : decode cX10_keyAt 45 = .ok (.aload_n 0, 1) := by decide +kernel
theorem dX10_keyAt_46 : decode cX10_keyAt 46 = .ok (.getfield 150, 3) := by decide +kernel
theorem dX10_keyAt_49 : decode cX10_keyAt 49 = .ok (.iload_n 3, 1) := by decide +kernel
theorem dX10_keyAt_50 : decode cX10_keyAt 50 = .ok (.iadd, 1) := by decide +kernel
theorem dX10_keyAt_51 : decode cX10_keyAt 51 = .ok (.iaload, 1) := by decide +kernel
theorem dX10_keyAt_52 : decode cX10_keyAt 52 = .ok (.ldc 138, 2) := by decide +kernel
theorem dX10_keyAt_54 : decode cX10_keyAt 54 = .ok (.iload_n 2, 1) := by decide +kernel
theorem dX10_keyAt_55 : decode cX10_keyAt 55 = .ok (.iload_n 3, 1) := by decide +kernel
theorem dX10_keyAt_56 : decode cX10_keyAt 56 = .ok (.iadd, 1) := by decide +kernel
theorem dX10_keyAt_57 : decode cX10_keyAt 57 = .ok (.invokevirtual 146, 3) := by decide +kernel
theorem dX10_keyAt_60 : decode cX10_keyAt 60 = .ok (.if_icmp .ne 9, 3) := by decide +kernel
theorem dX10_keyAt_63 : decode cX10_keyAt 63 = .ok (.iinc 3 1, 3) := by decide +kernel
theorem dX10_keyAt_66 : decode cX10_keyAt 66 = .ok (.goto (-51), 3) := by decide +kernel
theorem dX10_keyAt_69 : decode cX10_keyAt 69 = .ok (.ldc 138, 2) := by decide +kernel
theorem dX10_keyAt_71 : decode cX10_keyAt 71 = .ok (.iload_n 2, 1) := by decide +kernel
theorem dX10_keyAt_72 : decode cX10_keyAt 72 = .ok (.iload_n 3, 1) := by decide +kernel
theorem dX10_keyAt_73 : decode cX10_keyAt 73 = .ok (.iadd, 1) := by decide +kernel
theorem dX10_keyAt_74 : decode cX10_keyAt 74 = .ok (.invokevirtual 146, 3) := by decide +kernel
theorem dX10_keyAt_77 : decode cX10_keyAt 77 = .ok (.bipush 32, 2) := by decide +kernel
theorem dX10_keyAt_79 : decode cX10_keyAt 79 = .ok (.if_icmp .ne 18, 3) := by decide +kernel
theorem dX10_keyAt_82 : decode cX10_keyAt 82 = .ok (.aload_n 0, 1) := by decide +kernel
theorem dX10_keyAt_83 : decode cX10_keyAt 83 = .ok (.getfield 150, 3) := by decide +kernel
theorem dX10_keyAt_86 : decode cX10_keyAt 86 = .ok (.iload_n 3, 1) := by decide +kernel
theorem dX10_keyAt_87 : decode cX10_keyAt 87 = .ok (.iadd, 1) := by decide +kernel
theorem dX10_keyAt_88 : decode cX10_keyAt 88 = .ok (.aload_n 0, 1) := by decide +kernel
theorem dX10_keyAt_89 : decode cX10_keyAt 89 = .ok (.getfield 153, 3) := by decide +kernel
theorem dX10_keyAt_92 : decode cX10_keyAt 92 = .ok (.if_icmp .ne 5, 3) := by decide +kernel
theorem dX10_keyAt_95 : decode cX10_keyAt 95 = .ok (.iload_n 1, 1) := by decide +kernel
theorem dX10_keyAt_96 : decode cX10_keyAt 96 = .ok (.ireturn, 1) := by decide +kernel
theorem dX10_keyAt_97 : decode cX10_keyAt 97 = .ok (.ldc 138, 2) := by decide +kernel
theorem dX10_keyAt_99 : decode cX10_keyAt 99 = .ok (.iload_n 2, 1) := by decide +kernel
theorem dX10_keyAt_100 : decode cX10_keyAt 100 = .ok (.invokevirtual 146, 3) := by decide +kernel
theorem dX10_keyAt_103 : decode cX10_keyAt 103 = .ok (.bipush 32, 2) := by decide +kernel
theorem dX10_keyAt_105 : decode cX10_keyAt 105 = .ok (.if_icmp .eq 9, 3) := by decide +kernel
theorem dX10_keyAt_108 : decode cX10_keyAt 108 = .ok (.iinc 2 1, 3) := by decide +kernel
theorem dX10_keyAt_111 : decode cX10_keyAt 111 = .ok (.goto (-14), 3) := by decide +kernel
theorem dX10_keyAt_114 : decode cX10_keyAt 114 = .ok (.iinc 2 1, 3) := by decide +kernel
theorem dX10_keyAt_117 : decode cX10_keyAt 117 = .ok (.iinc 1 1, 3) := by decide +kernel
theorem dX10_keyAt_120 : decode cX10_keyAt 120 = .ok (.goto (-116), 3) := by decide +kernel
theorem dX10_keyAt_123 : decode cX10_keyAt 123 = .ok (.bipush 37, 2) := by decide +kernel
theorem dX10_keyAt_125 : decode cX10_keyAt 125 = .ok (.ireturn, 1) := by decide +kernel
theorem dX10_next_0 : decode cX10_next 0 = .ok (.aload_n 0, 1) := by decide +kernel
theorem dX10_next_1 : decode cX10_next 1 = .ok (.aload_n 0, 1) := by decide +kernel
theorem dX10_next_2 : decode cX10_next 2 = .ok (.getfield 153, 3) := by decide +kernel
theorem dX10_next_5 : decode cX10_next 5 = .ok (.putfield 150, 3) := by decide +kernel
theorem dX10_next_8 : decode cX10_next 8 = .ok (.aload_n 0, 1) := by decide +kernel
theorem dX10_next_9 : decode cX10_next 9 = .ok (.aload_n 0, 1) := by decide +kernel
theorem dX10_next_10 : decode cX10_next 10 = .ok (.getfield 150, 3) := by decide +kernel
theorem dX10_next_13 : decode cX10_next 13 = .ok (.invokevirtual 156, 3) := by decide +kernel
theorem dX10_next_16 : decode cX10_next 16 = .ok (.bipush 10, 2) := by decide +kernel
theorem dX10_next_18 : decode cX10_next 18 = .ok (.if_icmp .eq 16, 3) := by decide +kernel
theorem dX10_next_21 : decode cX10_next 21 = .ok (.aload_n 0, 1) := by decide +kernel
theorem dX10_next_22 : decode cX10_next 22 = .ok (.aload_n 0, 1) := by decide +kernel
theorem dX10_next_23 : decode cX10_next 23 = .ok (.getfield 150, 3) := by decide +kernel
theorem dX10_next_26 : decode cX10_next 26 = .ok (.invokevirtual 156, 3) := by decide +kernel
theorem dX10_next_29 : decode cX10_next 29 = .ok (.bipush 32, 2) := by decide +kernel
theorem dX10_next_31 : decode cX10_next 31 = .ok (.if_icmp .ne 16, 3) := by decide +kernel
theorem dX10_next_34 : decode cX10_next 34 = .ok (.aload_n 0, 1) := by decide +kernel
theorem dX10_next_35 : decode cX10_next 35 = .ok (.dup, 1) := by decide +kernel
theorem dX10_next_36 : decode cX10_next 36 = .ok (.getfield 150, 3) := by decide +kernel
theorem dX10_next_39 : decode cX10_next 39 = .ok (.iconst 1, 1) := by decide +kernel
theorem dX10_next_40 : decode cX10_next 40 = .ok (.iadd, 1) := by decide +kernel
theorem dX10_next_41 : decode cX10_next 41 = .ok (.putfield 150, 3) := by decide +kernel
theorem dX10_next_44 : decode cX10_next 44 = .ok (.goto (-36), 3) := by decide +kernel
theorem dX10_next_47 : decode cX10_next 47 = .ok (.aload_n 0, 1) := by decide +kernel
theorem dX10_next_48 : decode cX10_next 48 = .ok (.aload_n 0, 1) := by decide +kernel
theorem dX10_next_49 : decode cX10_next 49 = .ok (.getfield 150, 3) := by decide +kernel
theorem dX10_next_52 : decode cX10_next 52 = .ok (.putfield 153, 3) := by decide +kernel
theorem dX10_next_55 : decode cX10_next 55 = .ok (.aload_n 0, 1) := by decide +kernel
theorem dX10_next_56 : decode cX10_next 56 = .ok (.getfield 150, 3) := by decide +kernel
theorem dX10_next_59 : decode cX10_next 59 = .ok (.aload_n 0, 1) := by decide +kernel
theorem dX10_next_60 : decode cX10_next 60 = .ok (.getfield 135, 3) := by decide +kernel
theorem dX10_next_63 : decode cX10_next 63 = .ok (.if_icmp .lt 12, 3) := by decide +kernel
theorem dX10_next_66 : decode cX10_next 66 = .ok (.aload_n 0, 1) := by decide +kernel
theorem dX10_next_67 : decode cX10_next 67 = .ok (.bipush 42, 2) := by decide +kernel
theorem dX10_next_69 : decode cX10_next 69 = .ok (.putfield 159, 3) := by decide +kernel
theorem dX10_next_72 : decode cX10_next 72 = .ok (.goto 234, 3) := by decide +kernel
theorem dX10_next_75 : decode cX10_next 75 = .ok (.aload_n 0, 1) := by decide +kernel
theorem dX10_next_76 : decode cX10_next 76 = .ok (.aload_n 0, 1) := by decide +kernel
theorem dX10_next_77 : decode cX10_next 77 = .ok (.getfield 150, 3) := by decide +kernel
theorem dX10_next_80 : decode cX10_next 80 = .ok (.invokevirtual 156, 3) := by decide +kernel
theorem dX10_next_83 : decode cX10_next 83 = .ok (.invokestatic 162, 3) := by decide +kernel
theorem dX10_next_86 : decode cX10_next 86 = .ok (.ifCond .eq 41, 3) := by decide +kernel
theorem dX10_next_89 : decode cX10_next 89 = .ok (.aload_n 0, 1) := by decide +kernel
theorem dX10_next_90 : decode cX10_next 90 = .ok (.aload_n 0, 1) := by decide +kernel
theorem dX10_next_91 : decode cX10_next 91 = .ok (.getfield 153, 3) := by decide +kernel
theorem dX10_next_94 : decode cX10_next 94 = .ok (.invokevirtual 156, 3) := by decide +kernel
theorem dX10_next_97 : decode cX10_next 97 = .ok (.invokestatic 162, 3) := by decide +kernel
theorem dX10_next_100 : decode cX10_next 100 = .ok (.ifCond .eq 16, 3) := by decide +kernel
theorem dX10_next_103 : decode cX10_next 103 = .ok (.aload_n 0, 1) := by decide +kernel
theorem dX10_next_104 : decode cX10_next 104 = .ok (.dup, 1) := by decide +kernel
theorem dX10_next_105 : decode cX10_next 105 = .ok (.getfield 153, 3) := by decide +kernel
theorem dX10_next_108 : decode cX10_next 108 = .ok (.iconst 1, 1) := by decide +kernel
theorem dX10_next_109 : decode cX10_next 109 = .ok (.iadd, 1) := by decide +kernel
theorem dX10_next_110 : decode cX10_next 110 = .ok (.putfield 153, 3) := by decide +kernel
theorem dX10_next_113 : decode cX10_next 113 = .ok (.goto (-24), 3) := by decide +kernel
theorem dX10_next_116 : decode cX10_next 116 = .ok (.aload_n 0, 1) := by decide +kernel
theorem dX10_next_117 : decode cX10_next 117 = .ok (.aload_n 0, 1) := by decide +kernel
theorem dX10_next_118 : decode cX10_next 118 = .ok (.invokevirtual 166, 3) := by decide +kernel
theorem dX10_next_121 : decode cX10_next 121 = .ok (.putfield 159, 3) := by decide +kernel
theorem dX10_next_124 : decode cX10_next 124 = .ok (.goto 182, 3) := by decide +kernel
theorem dX10_next_127 : decode cX10_next 127 = .ok (.aload_n 0, 1) := by decide +kernel
theorem dX10_next_128 : decode cX10_next 128 = .ok (.aload_n 0, 1) := by decide +kernel
theorem dX10_next_129 : decode cX10_next 129 = .ok (.getfield 150, 3) := by decide +kernel
theorem dX10_next_132 : decode cX10_next 132 = .ok (.invokevirtual 156, 3) := by decide +kernel
theorem dX10_next_135 : decode cX10_next 135 = .ok (.invokestatic 169, 3) := by decide +kernel
theorem dX10_next_138 : decode cX10_next 138 = .ok (.ifCond .eq 98, 3) := by decide +kernel
theorem dX10_next_141 : decode cX10_next 141 = .ok (.aload_n 0, 1) := by decide +kernel
theorem dX10_next_142 : decode cX10_next 142 = .ok (.iconst 0, 1) := by decide +kernel
theorem dX10_next_143 : decode cX10_next 143 = .ok (.putfield 172, 3) := by decide +kernel
theorem dX10_next_146 : decode cX10_next 146 = .ok (.aload_n 0, 1) := by decide +kernel
theorem dX10_next_147 : decode cX10_next 147 = .ok (.aload_n 0, 1) := by decide +kernel
theorem dX10_next_148 : decode cX10_next 148 = .ok (.getfield 153, 3) := by decide +kernel
theorem dX10_next_151 : decode cX10_next 151 = .ok (.invokevirtual 156, 3) := by decide +kernel
theorem dX10_next_154 : decode cX10_next 154 = .ok (.invokestatic 169, 3) := by decide +kernel
theorem dX10_next_157 : decode cX10_next 157 = .ok (.ifCond .eq 52, 3) := by decide +kernel
theorem dX10_next_160 : decode cX10_next 160 = .ok (.aload_n 0, 1) := by decide +kernel
theorem dX10_next_161 : decode cX10_next 161 = .ok (.getfield 153, 3) := by decide +kernel
theorem dX10_next_164 : decode cX10_next 164 = .ok (.aload_n 0, 1) := by decide +kernel
theorem dX10_next_165 : decode cX10_next 165 = .ok (.getfield 150, 3) := by decide +kernel
theorem dX10_next_168 : decode cX10_next 168 = .ok (.isub, 1) := by decide +kernel
theorem dX10_next_169 : decode cX10_next 169 = .ok (.iconst 3, 1) := by decide +kernel
theorem dX10_next_170 : decode cX10_next 170 = .ok (.if_icmp .ge 26, 3) := by decide +kernel
theorem dX10_next_173 : decode cX10_next 173 = .ok (.aload_n 0, 1) := by decide +kernel
theorem dX10_next_174 : decode cX10_next 174 = .ok (.bipush 10, 2) := by decide +kernel
theorem dX10_next_176 : decode cX10_next 176 = .ok (.aload_n 0, 1) := by decide +kernel
theorem dX10_next_177 : decode cX10_next 177 = .ok (.getfield 172, 3) := by decide +kernel
theorem dX10_next_180 : decode cX10_next 180 = .ok (.imul, 1) := by decide +kernel
theorem dX10_next_181 : decode cX10_next 181 = .ok (.aload_n 0, 1) := by decide +kernel
theorem dX10_next_182 : decode cX10_next 182 = .ok (.aload_n 0, 1) := by decide +kernel
theorem dX10_next_183 : decode cX10_next 183 = .ok (.getfield 153, 3) := by decide +kernel
theorem dX10_next_186 : decode cX10_next 186 = .ok (.invokevirtual 156, 3) := by decide +kernel
theorem dX10_next_189 : decode cX10_next 189 = .ok (.iadd, 1) := by decide +kernel
theorem dX10_next_190 : decode cX10_next 190 = .ok (.bipush 48, 2) := by decide +kernel
theorem dX10_next_192 : decode cX10_next 192 = .ok (.isub, 1) := by decide +kernel
theorem dX10_next_193 : decode cX10_next 193 = .ok (.putfield 172, 3) := by decide +kernel
theorem dX10_next_196 : decode cX10_next 196 = .ok (.aload_n 0, 1) := by decide +kernel
theorem dX10_next_197 : decode cX10_next 197 = .ok (.dup, 1) := by decide +kernel
theorem dX10_next_198 : decode cX10_next 198 = .ok (.getfield 153, 3) := by decide +kernel
theorem dX10_next_201 : decode cX10_next 201 = .ok (.iconst 1, 1) := by decide +kernel
theorem dX10_next_202 : decode cX10_next 202 = .ok (.iadd, 1) := by decide +kernel
theorem dX10_next_203 : decode cX10_next 203 = .ok (.putfield 153, 3) := by decide +kernel
theorem dX10_next_206 : decode cX10_next 206 = .ok (.goto (-60), 3) := by decide +kernel
theorem dX10_next_209 : decode cX10_next 209 = .ok (.aload_n 0, 1) := by decide +kernel
theorem dX10_next_210 : decode cX10_next 210 = .ok (.aload_n 0, 1) := by decide +kernel
theorem dX10_next_211 : decode cX10_next 211 = .ok (.getfield 153, 3) := by decide +kernel
theorem dX10_next_214 : decode cX10_next 214 = .ok (.aload_n 0, 1) := by decide +kernel
theorem dX10_next_215 : decode cX10_next 215 = .ok (.getfield 150, 3) := by decide +kernel
theorem dX10_next_218 : decode cX10_next 218 = .ok (.isub, 1) := by decide +kernel
theorem dX10_next_219 : decode cX10_next 219 = .ok (.iconst 3, 1) := by decide +kernel
theorem dX10_next_220 : decode cX10_next 220 = .ok (.if_icmp .le 8, 3) := by decide +kernel
theorem dX10_next_223 : decode cX10_next 223 = .ok (.bipush 43, 2) := by decide +kernel
theorem dX10_next_225 : decode cX10_next 225 = .ok (.goto 5, 3) := by decide +kernel
theorem dX10_next_228 : decode cX10_next 228 = .ok (.bipush 38, 2) := by decide +kernel
theorem dX10_next_230 : decode cX10_next 230 = .ok (.putfield 159, 3) := by decide +kernel
theorem dX10_next_233 : decode cX10_next 233 = .ok (.goto 73, 3) := by decide +kernel
theorem dX10_next_236 : decode cX10_next 236 = .ok (.aload_n 0, 1) := by decide +kernel
theorem dX10_next_237 : decode cX10_next 237 = .ok (.dup, 1) := by decide +kernel
theorem dX10_next_238 : decode cX10_next 238 = .ok (.getfield 153, 3) := by decide +kernel
theorem dX10_next_241 : decode cX10_next 241 = .ok (.iconst 1, 1) := by decide +kernel
theorem dX10_next_242 : decode cX10_next 242 = .ok (.iadd, 1) := by decide +kernel
theorem dX10_next_243 : decode cX10_next 243 = .ok (.putfield 153, 3) := by decide +kernel
theorem dX10_next_246 : decode cX10_next 246 = .ok (.aload_n 0, 1) := by decide +kernel
theorem dX10_next_247 : decode cX10_next 247 = .ok (.aload_n 0, 1) := by decide +kernel
theorem dX10_next_248 : decode cX10_next 248 = .ok (.aload_n 0, 1) := by decide +kernel
theorem dX10_next_249 : decode cX10_next 249 = .ok (.getfield 150, 3) := by decide +kernel
theorem dX10_next_252 : decode cX10_next 252 = .ok (.invokevirtual 156, 3) := by decide +kernel
theorem dX10_next_255 : decode cX10_next 255 = .ok (.bipush 59, 2) := by decide +kernel
theorem dX10_next_257 : decode cX10_next 257 = .ok (.if_icmp .ne 8, 3) := by decide +kernel
theorem dX10_next_260 : decode cX10_next 260 = .ok (.bipush 39, 2) := by decide +kernel
theorem dX10_next_262 : decode cX10_next 262 = .ok (.goto 41, 3) := by decide +kernel
theorem dX10_next_265 : decode cX10_next 265 = .ok (.aload_n 0, 1) := by decide +kernel
theorem dX10_next_266 : decode cX10_next 266 = .ok (.aload_n 0, 1) := by decide +kernel
theorem dX10_next_267 : decode cX10_next 267 = .ok (.getfield 150, 3) := by decide +kernel
theorem dX10_next_270 : decode cX10_next 270 = .ok (.invokevirtual 156, 3) := by decide +kernel
theorem dX10_next_273 : decode cX10_next 273 = .ok (.bipush 40, 2) := by decide +kernel
theorem dX10_next_275 : decode cX10_next 275 = .ok (.if_icmp .ne 8, 3) := by decide +kernel
theorem dX10_next_278 : decode cX10_next 278 = .ok (.bipush 40, 2) := by decide +kernel
theorem dX10_next_280 : decode cX10_next 280 = .ok (.goto 23, 3) := by decide +kernel
theorem dX10_next_283 : decode cX10_next 283 = .ok (.aload_n 0, 1) := by decide +kernel
theorem dX10_next_284 : decode cX10_next 284 = .ok (.aload_n 0, 1) := by decide +kernel
theorem dX10_next_285 : decode cX10_next 285 = .ok (.getfield 150, 3) := by decide +kernel
theorem dX10_next_288 : decode cX10_next 288 = .ok (.invokevirtual 156, 3) := by decide +kernel
theorem dX10_next_291 : decode cX10_next 291 = .ok (.bipush 41, 2) := by decide +kernel
theorem dX10_next_293 : decode cX10_next 293 = .ok (.if_icmp .ne 8, 3) := by decide +kernel
theorem dX10_next_296 : decode cX10_next 296 = .ok (.bipush 41, 2) := by decide +kernel
theorem dX10_next_298 : decode cX10_next 298 = .ok (.goto 5, 3) := by decide +kernel
theorem dX10_next_301 : decode cX10_next 301 = .ok (.bipush 43, 2) := by decide +kernel
theorem dX10_next_303 : decode cX10_next 303 = .ok (.putfield 159, 3) := by decide +kernel
theorem dX10_next_306 : decode cX10_next 306 = .ok (.return_, 1) := by decide +kernel
theorem dX10_fails_0 : decode cX10_fails 0 = .ok (.aload_n 0, 1) := by decide +kernel
theorem dX10_fails_1 : decode cX10_fails 1 = .ok (.getfield 175, 3) := by decide +kernel
theorem dX10_fails_4 : decode cX10_fails 4 = .ok (.ifCond .eq 4, 3) := by decide +kernel
theorem dX10_fails_7 : decode cX10_fails 7 = .ok (.return_, 1) := by decide +kernel
theorem dX10_fails_8 : decode cX10_fails 8 = .ok (.aload_n 0, 1) := by decide +kernel
theorem dX10_fails_9 : decode cX10_fails 9 = .ok (.aload_n 0, 1) := by decide +kernel
theorem dX10_fails_10 : decode cX10_fails 10 = .ok (.getfield 159, 3) := by decide +kernel
theorem dX10_fails_13 : decode cX10_fails 13 = .ok (.bipush 43, 2) := by decide +kernel
theorem dX10_fails_15 : decode cX10_fails 15 = .ok (.if_icmp .ne 7, 3) := by decide +kernel
theorem dX10_fails_18 : decode cX10_fails 18 = .ok (.iconst 1, 1) := by decide +kernel
theorem dX10_fails_19 : decode cX10_fails 19 = .ok (.goto 4, 3) := by decide +kernel
theorem dX10_fails_22 : decode cX10_fails 22 = .ok (.iload_n 1, 1) := by decide +kernel
theorem dX10_fails_23 : decode cX10_fails 23 = .ok (.putfield 175, 3) := by decide +kernel
theorem dX10_fails_26 : decode cX10_fails 26 = .ok (.aload_n 0, 1) := by decide +kernel
theorem dX10_fails_27 : decode cX10_fails 27 = .ok (.aload_n 0, 1) := by decide +kernel
theorem dX10_fails_28 : decode cX10_fails 28 = .ok (.getfield 150, 3) := by decide +kernel
theorem dX10_fails_31 : decode cX10_fails 31 = .ok (.putfield 178, 3) := by decide +kernel
theorem dX10_fails_34 : decode cX10_fails 34 = .ok (.return_, 1) := by decide +kernel
theorem dX10_is_0 : decode cX10_is 0 = .ok (.aload_n 0, 1) := by decide +kernel
theorem dX10_is_1 : decode cX10_is 1 = .ok (.getfield 175, 3) := by decide +kernel
theorem dX10_is_4 : decode cX10_is 4 = .ok (.ifCond .ne 15, 3) := by decide +kernel
theorem dX10_is_7 : decode cX10_is 7 = .ok (.aload_n 0, 1) := by decide +kernel
theorem dX10_is_8 : decode cX10_is 8 = .ok (.getfield 159, 3) := by decide +kernel
theorem dX10_is_11 : decode cX10_is 11 = .ok (.iload_n 1, 1) := by decide +kernel
theorem dX10_is_12 : decode cX10_is 12 = .ok (.if_icmp .ne 7, 3) := by decide +kernel
theorem dX10_is_15 : decode cX10_is 15 = .ok (.iconst 1, 1) := by decide +kernel
theorem dX10_is_16 : decode cX10_is 16 = .ok (.goto 4, 3) := by decide +kernel
theorem dX10_is_19 : decode cX10_is 19 = .ok (.iconst 0, 1) := by decide +kernel
theorem dX10_is_20 : decode cX10_is 20 = .ok (.ireturn, 1) := by decide +kernel
theorem dX10_eats_0 : decode cX10_eats 0 = .ok (.aload_n 0, 1) := by decide +kernel
theorem dX10_eats_1 : decode cX10_eats 1 = .ok (.iload_n 1, 1) := by decide +kernel
theorem dX10_eats_2 : decode cX10_eats 2 = .ok (.invokevirtual 181, 3) := by decide +kernel
theorem dX10_eats_5 : decode cX10_eats 5 = .ok (.ifCond .ne 5, 3) := by decide +kernel
theorem dX10_eats_8 : decode cX10_eats 8 = .ok (.iconst 0, 1) := by decide +kernel
theorem dX10_eats_9 : decode cX10_eats 9 = .ok (.ireturn, 1) := by decide +kernel
theorem dX10_eats_10 : decode cX10_eats 10 = .ok (.aload_n 0, 1) := by decide +kernel
theorem dX10_eats_11 : decode cX10_eats 11 = .ok (.invokevirtual 184, 3) := by decide +kernel
theorem dX10_eats_14 : decode cX10_eats 14 = .ok (.iconst 1, 1) := by decide +kernel
theorem dX10_eats_15 : decode cX10_eats 15 = .ok (.ireturn, 1) := by decide +kernel
theorem dX10_needs_0 : decode cX10_needs 0 = .ok (.aload_n 0, 1) := by decide +kernel
theorem dX10_needs_1 : decode cX10_needs 1 = .ok (.iload_n 1, 1) := by decide +kernel
theorem dX10_needs_2 : decode cX10_needs 2 = .ok (.invokevirtual 187, 3) := by decide +kernel
theorem dX10_needs_5 : decode cX10_needs 5 = .ok (.ifCond .ne 8, 3) := by decide +kernel
theorem dX10_needs_8 : decode cX10_needs 8 = .ok (.aload_n 0, 1) := by decide +kernel
theorem dX10_needs_9 : decode cX10_needs 9 = .ok (.iconst 2, 1) := by decide +kernel
theorem dX10_needs_10 : decode cX10_needs 10 = .ok (.invokevirtual 190, 3) := by decide +kernel
theorem dX10_needs_13 : decode cX10_needs 13 = .ok (.return_, 1) := by decide +kernel
theorem dX10_reads_0 : decode cX10_reads 0 = .ok (.aload_n 0, 1) := by decide +kernel
theorem dX10_reads_1 : decode cX10_reads 1 = .ok (.bipush 38, 2) := by decide +kernel
theorem dX10_reads_3 : decode cX10_reads 3 = .ok (.invokevirtual 181, 3) := by decide +kernel
theorem dX10_reads_6 : decode cX10_reads 6 = .ok (.ifCond .ne 11, 3) := by decide +kernel
theorem dX10_reads_9 : decode cX10_reads 9 = .ok (.aload_n 0, 1) := by decide +kernel
theorem dX10_reads_10 : decode cX10_reads 10 = .ok (.iconst 2, 1) := by decide +kernel
theorem dX10_reads_11 : decode cX10_reads 11 = .ok (.invokevirtual 190, 3) := by decide +kernel
theorem dX10_reads_14 : decode cX10_reads 14 = .ok (.goto 23, 3) := by decide +kernel
theorem dX10_reads_17 : decode cX10_reads 17 = .ok (.aload_n 0, 1) := by decide +kernel
theorem dX10_reads_18 : decode cX10_reads 18 = .ok (.getfield 172, 3) := by decide +kernel
theorem dX10_reads_21 : decode cX10_reads 21 = .ok (.i2l, 1) := by decide +kernel
theorem dX10_reads_22 : decode cX10_reads 22 = .ok (.iload_n 1, 1) := by decide +kernel
theorem dX10_reads_23 : decode cX10_reads 23 = .ok (.i2l, 1) := by decide +kernel
theorem dX10_reads_24 : decode cX10_reads 24 = .ok (.iload_n 2, 1) := by decide +kernel
theorem dX10_reads_25 : decode cX10_reads 25 = .ok (.i2l, 1) := by decide +kernel
theorem dX10_reads_26 : decode cX10_reads 26 = .ok (.invokestatic 193, 3) := by decide +kernel
theorem dX10_reads_29 : decode cX10_reads 29 = .ok (.ifCond .ne 8, 3) := by decide +kernel
theorem dX10_reads_32 : decode cX10_reads 32 = .ok (.aload_n 0, 1) := by decide +kernel
theorem dX10_reads_33 : decode cX10_reads 33 = .ok (.iconst 3, 1) := by decide +kernel
theorem dX10_reads_34 : decode cX10_reads 34 = .ok (.invokevirtual 190, 3) := by decide +kernel
theorem dX10_reads_37 : decode cX10_reads 37 = .ok (.aload_n 0, 1) := by decide +kernel
theorem dX10_reads_38 : decode cX10_reads 38 = .ok (.getfield 172, 3) := by decide +kernel
theorem dX10_reads_41 : decode cX10_reads 41 = .ok (.istore_n 3, 1) := by decide +kernel
theorem dX10_reads_42 : decode cX10_reads 42 = .ok (.aload_n 0, 1) := by decide +kernel
theorem dX10_reads_43 : decode cX10_reads 43 = .ok (.getfield 175, 3) := by decide +kernel
theorem dX10_reads_46 : decode cX10_reads 46 = .ok (.ifCond .ne 7, 3) := by decide +kernel
theorem dX10_reads_49 : decode cX10_reads 49 = .ok (.aload_n 0, 1) := by decide +kernel
theorem dX10_reads_50 : decode cX10_reads 50 = .ok (.invokevirtual 184, 3) := by decide +kernel
theorem dX10_reads_53 : decode cX10_reads 53 = .ok (.iload_n 3, 1) := by decide +kernel
theorem dX10_reads_54 : decode cX10_reads 54 = .ok (.ireturn, 1) := by decide +kernel
theorem dX10_readSpans_0 : decode cX10_readSpans 0 = .ok (.aload_n 0, 1) := by decide +kernel
theorem dX10_readSpans_1 : decode cX10_readSpans 1 = .ok (.bipush 7, 2) := by decide +kernel
theorem dX10_readSpans_3 : decode cX10_readSpans 3 = .ok (.invokevirtual 181, 3) := by decide +kernel
theorem dX10_readSpans_6 : decode cX10_readSpans 6 = .ok (.ifCond .ne 38, 3) := by decide +kernel
theorem dX10_readSpans_9 : decode cX10_readSpans 9 = .ok (.iconst 0, 1) := by decide +kernel
theorem dX10_readSpans_10 : decode cX10_readSpans 10 = .ok (.istore_n 3, 1) := by decide +kernel
theorem dX10_readSpans_11 : decode cX10_readSpans 11 = .ok (.iload_n 3, 1) := by decide +kernel
theorem dX10_readSpans_12 : decode cX10_readSpans 12 = .ok (.aload_n 0, 1) := by decide +kernel
theorem dX10_readSpans_13 : decode cX10_readSpans 13 = .ok (.getfield 27, 3) := by decide +kernel
theorem dX10_readSpans_16 : decode cX10_readSpans 16 = .ok (.iconst 0, 1) := by decide +kernel
theorem dX10_readSpans_17 : decode cX10_readSpans 17 = .ok (.iaload, 1) := by decide +kernel
theorem dX10_readSpans_18 : decode cX10_readSpans 18 = .ok (.if_icmp .ge 25, 3) := by decide +kernel
theorem dX10_readSpans_21 : decode cX10_readSpans 21 = .ok (.aload_n 0, 1) := by decide +kernel
theorem dX10_readSpans_22 : decode cX10_readSpans 22 = .ok (.getfield 175, 3) := by decide +kernel
theorem dX10_readSpans_25 : decode cX10_readSpans 25 = .ok (.ifCond .ne 18, 3) := by decide +kernel
theorem dX10_readSpans_28 : decode cX10_readSpans 28 = .ok (.aload_n 0, 1) := by decide +kernel
theorem dX10_readSpans_29 : decode cX10_readSpans 29 = .ok (.getfield 27, 3) := by decide +kernel
theorem dX10_readSpans_32 : decode cX10_readSpans 32 = .ok (.iload_n 1, 1) := by decide +kernel
theorem dX10_readSpans_33 : decode cX10_readSpans 33 = .ok (.iload_n 3, 1) := by decide +kernel
theorem dX10_readSpans_34 : decode cX10_readSpans 34 = .ok (.iadd, 1) := by decide +kernel
theorem dX10_readSpans_35 : decode cX10_readSpans 35 = .ok (.iload_n 2, 1) := by decide +kernel
theorem dX10_readSpans_36 : decode cX10_readSpans 36 = .ok (.iastore, 1) := by decide +kernel
theorem dX10_readSpans_37 : decode cX10_readSpans 37 = .ok (.iinc 3 1, 3) := by decide +kernel
theorem dX10_readSpans_40 : decode cX10_readSpans 40 = .ok (.goto (-29), 3) := by decide +kernel
theorem dX10_readSpans_43 : decode cX10_readSpans 43 = .ok (.return_, 1) := by decide +kernel
theorem dX10_readSpans_44 : decode cX10_readSpans 44 = .ok (.aload_n 0, 1) := by decide +kernel
theorem dX10_readSpans_45 : decode cX10_readSpans 45 = .ok (.bipush 7, 2) := by decide +kernel
theorem dX10_readSpans_47 : decode cX10_readSpans 47 = .ok (.invokevirtual 187, 3) := by decide +kernel
theorem dX10_readSpans_50 : decode cX10_readSpans 50 = .ok (.ifCond .eq 80, 3) := by decide +kernel
theorem dX10_readSpans_53 : decode cX10_readSpans 53 = .ok (.aload_n 0, 1) := by decide +kernel
theorem dX10_readSpans_54 : decode cX10_readSpans 54 = .ok (.iconst 0, 1) := by decide +kernel
theorem dX10_readSpans_55 : decode cX10_readSpans 55 = .ok (.aload_n 0, 1) := by decide +kernel
theorem dX10_readSpans_56 : decode cX10_readSpans 56 = .ok (.getfield 27, 3) := by decide +kernel
theorem dX10_readSpans_59 : decode cX10_readSpans 59 = .ok (.iconst 0, 1) := by decide +kernel
theorem dX10_readSpans_60 : decode cX10_readSpans 60 = .ok (.iaload, 1) := by decide +kernel
theorem dX10_readSpans_61 : decode cX10_readSpans 61 = .ok (.iconst 1, 1) := by decide +kernel
theorem dX10_readSpans_62 : decode cX10_readSpans 62 = .ok (.isub, 1) := by decide +kernel
theorem dX10_readSpans_63 : decode cX10_readSpans 63 = .ok (.invokevirtual 197, 3) := by decide +kernel
theorem dX10_readSpans_66 : decode cX10_readSpans 66 = .ok (.istore_n 3, 1) := by decide +kernel
theorem dX10_readSpans_67 : decode cX10_readSpans 67 = .ok (.iload_n 3, 1) := by decide +kernel
theorem dX10_readSpans_68 : decode cX10_readSpans 68 = .ok (.istore 4, 2) := by decide +kernel
theorem dX10_readSpans_70 : decode cX10_readSpans 70 = .ok (.aload_n 0, 1) := by decide +kernel
theorem dX10_readSpans_71 : decode cX10_readSpans 71 = .ok (.bipush 8, 2) := by decide +kernel
theorem dX10_readSpans_73 : decode cX10_readSpans 73 = .ok (.invokevirtual 187, 3) := by decide +kernel
theorem dX10_readSpans_76 : decode cX10_readSpans 76 = .ok (.ifCond .eq 18, 3) := by decide +kernel
theorem dX10_readSpans_79 : decode cX10_readSpans 79 = .ok (.aload_n 0, 1) := by decide +kernel
theorem dX10_readSpans_80 : decode cX10_readSpans 80 = .ok (.iload_n 3, 1) := by decide +kernel
theorem dX10_readSpans_81 : decode cX10_readSpans 81 = .ok (.aload_n 0, 1) := by decide +kernel
theorem dX10_readSpans_82 : decode cX10_readSpans 82 = .ok (.getfield 27, 3) := by decide +kernel
theorem dX10_readSpans_85 : decode cX10_readSpans 85 = .ok (.iconst 0, 1) := by decide +kernel
theorem dX10_readSpans_86 : decode cX10_readSpans 86 = .ok (.iaload, 1) := by decide +kernel
theorem dX10_readSpans_87 : decode cX10_readSpans 87 = .ok (.iconst 1, 1) := by decide +kernel
theorem dX10_readSpans_88 : decode cX10_readSpans 88 = .ok (.isub, 1) := by decide +kernel
theorem dX10_readSpans_89 : decode cX10_readSpans 89 = .ok (.invokevirtual 197, 3) := by decide +kernel
theorem dX10_readSpans_92 : decode cX10_readSpans 92 = .ok (.istore 4, 2) := by decide +kernel
theorem dX10_readSpans_94 : decode cX10_readSpans 94 = .ok (.iload_n 3, 1) := by decide +kernel
theorem dX10_readSpans_95 : decode cX10_readSpans 95 = .ok (.istore 5, 2) := by decide +kernel
theorem dX10_readSpans_97 : decode cX10_readSpans 97 = .ok (.iload 5, 2) := by decide +kernel
theorem dX10_readSpans_99 : decode cX10_readSpans 99 = .ok (.iload 4, 2) := by decide +kernel
theorem dX10_readSpans_101 : decode cX10_readSpans 101 = .ok (.if_icmp .gt 26, 3) := by decide +kernel
theorem dX10_readSpans_104 : decode cX10_readSpans 104 = .ok (.aload_n 0, 1) := by decide +kernel
theorem dX10_readSpans_105 : decode cX10_readSpans 105 = .ok (.getfield 175, 3) := by decide +kernel
theorem dX10_readSpans_108 : decode cX10_readSpans 108 = .ok (.ifCond .ne 19, 3) := by decide +kernel
theorem dX10_readSpans_111 : decode cX10_readSpans 111 = .ok (.aload_n 0, 1) := by decide +kernel
theorem dX10_readSpans_112 : decode cX10_readSpans 112 = .ok (.getfield 27, 3) := by decide +kernel
theorem dX10_readSpans_115 : decode cX10_readSpans 115 = .ok (.iload_n 1, 1) := by decide +kernel
theorem dX10_readSpans_116 : decode cX10_readSpans 116 = .ok (.iload 5, 2) := by decide +kernel
theorem dX10_readSpans_118 : decode cX10_readSpans 118 = .ok (.iadd, 1) := by decide +kernel
theorem dX10_readSpans_119 : decode cX10_readSpans 119 = .ok (.iload_n 2, 1) := by decide +kernel
theorem dX10_readSpans_120 : decode cX10_readSpans 120 = .ok (.iastore, 1) := by decide +kernel
theorem dX10_readSpans_121 : decode cX10_readSpans 121 = .ok (.iinc 5 1, 3) := by decide +kernel
theorem dX10_readSpans_124 : decode cX10_readSpans 124 = .ok (.goto (-27), 3) := by decide +kernel
theorem dX10_readSpans_127 : decode cX10_readSpans 127 = .ok (.goto (-83), 3) := by decide +kernel
theorem dX10_readSpans_130 : decode cX10_readSpans 130 = .ok (.return_, 1) := by decide +kernel
theorem dX10_readFirst_0 : decode cX10_readFirst 0 = .ok (.aload_n 0, 1) := by decide +kernel
theorem dX10_readFirst_1 : decode cX10_readFirst 1 = .ok (.iconst 0, 1) := by decide +kernel
theorem dX10_readFirst_2 : decode cX10_readFirst 2 = .ok (.invokevirtual 201, 3) := by decide +kernel
theorem dX10_readFirst_5 : decode cX10_readFirst 5 = .ok (.aload_n 0, 1) := by decide +kernel
theorem dX10_readFirst_6 : decode cX10_readFirst 6 = .ok (.getfield 27, 3) := by decide +kernel
theorem dX10_readFirst_9 : decode cX10_readFirst 9 = .ok (.iconst 0, 1) := by decide +kernel
theorem dX10_readFirst_10 : decode cX10_readFirst 10 = .ok (.aload_n 0, 1) := by decide +kernel
theorem dX10_readFirst_11 : decode cX10_readFirst 11 = .ok (.iconst 3, 1) := by decide +kernel
theorem dX10_readFirst_12 : decode cX10_readFirst 12 = .ok (.bipush 60, 2) := by decide +kernel
theorem dX10_readFirst_14 : decode cX10_readFirst 14 = .ok (.invokevirtual 197, 3) := by decide +kernel
theorem dX10_readFirst_17 : decode cX10_readFirst 17 = .ok (.iastore, 1) := by decide +kernel
theorem dX10_readFirst_18 : decode cX10_readFirst 18 = .ok (.iconst 0, 1) := by decide +kernel
theorem dX10_readFirst_19 : decode cX10_readFirst 19 = .ok (.istore_n 1, 1) := by decide +kernel
theorem dX10_readFirst_20 : decode cX10_readFirst 20 = .ok (.iload_n 1, 1) := by decide +kernel
theorem dX10_readFirst_21 : decode cX10_readFirst 21 = .ok (.bipush 60, 2) := by decide +kernel
theorem dX10_readFirst_23 : decode cX10_readFirst 23 = .ok (.if_icmp .ge 30, 3) := by decide +kernel
theorem dX10_readFirst_26 : decode cX10_readFirst 26 = .ok (.aload_n 0, 1) := by decide +kernel
theorem dX10_readFirst_27 : decode cX10_readFirst 27 = .ok (.getfield 27, 3) := by decide +kernel
theorem dX10_readFirst_30 : decode cX10_readFirst 30 = .ok (.iconst 2, 1) := by decide +kernel
theorem dX10_readFirst_31 : decode cX10_readFirst 31 = .ok (.iload_n 1, 1) := by decide +kernel
theorem dX10_readFirst_32 : decode cX10_readFirst 32 = .ok (.iadd, 1) := by decide +kernel
theorem dX10_readFirst_33 : decode cX10_readFirst 33 = .ok (.bipush 10, 2) := by decide +kernel
theorem dX10_readFirst_35 : decode cX10_readFirst 35 = .ok (.iastore, 1) := by decide +kernel
theorem dX10_readFirst_36 : decode cX10_readFirst 36 = .ok (.aload_n 0, 1) := by decide +kernel
theorem dX10_readFirst_37 : decode cX10_readFirst 37 = .ok (.getfield 27, 3) := by decide +kernel
theorem dX10_readFirst_40 : decode cX10_readFirst 40 = .ok (.bipush 62, 2) := by decide +kernel
theorem dX10_readFirst_42 : decode cX10_readFirst 42 = .ok (.iload_n 1, 1) := by decide +kernel
theorem dX10_readFirst_43 : decode cX10_readFirst 43 = .ok (.iadd, 1) := by decide +kernel
theorem dX10_readFirst_44 : decode cX10_readFirst 44 = .ok (.bipush 100, 2) := by decide +kernel
theorem dX10_readFirst_46 : decode cX10_readFirst 46 = .ok (.iastore, 1) := by decide +kernel
theorem dX10_readFirst_47 : decode cX10_readFirst 47 = .ok (.iinc 1 1, 3) := by decide +kernel
theorem dX10_readFirst_50 : decode cX10_readFirst 50 = .ok (.goto (-30), 3) := by decide +kernel
theorem dX10_readFirst_53 : decode cX10_readFirst 53 = .ok (.return_, 1) := by decide +kernel
theorem dX10_readRodLine_0 : decode cX10_readRodLine 0 = .ok (.aload_n 0, 1) := by decide +kernel
theorem dX10_readRodLine_1 : decode cX10_readRodLine 1 = .ok (.getfield 204, 3) := by decide +kernel
theorem dX10_readRodLine_4 : decode cX10_readRodLine 4 = .ok (.ifCond .ne 8, 3) := by decide +kernel
theorem dX10_readRodLine_7 : decode cX10_readRodLine 7 = .ok (.aload_n 0, 1) := by decide +kernel
theorem dX10_readRodLine_8 : decode cX10_readRodLine 8 = .ok (.invokevirtual 207, 3) := by decide +kernel
theorem dX10_readRodLine_11 : decode cX10_readRodLine 11 = .ok (.return_, 1) := by decide +kernel
theorem dX10_readRodLine_12 : decode cX10_readRodLine 12 = .ok (.aload_n 0, 1) := by decide +kernel
theorem dX10_readRodLine_13 : decode cX10_readRodLine 13 = .ok (.getfield 175, 3) := by decide +kernel
theorem dX10_readRodLine_16 : decode cX10_readRodLine 16 = .ok (.ifCond .ne 10, 3) := by decide +kernel
theorem dX10_readRodLine_19 : decode cX10_readRodLine 19 = .ok (.aload_n 0, 1) := by decide +kernel
theorem dX10_readRodLine_20 : decode cX10_readRodLine 20 = .ok (.getfield 159, 3) := by decide +kernel
theorem dX10_readRodLine_23 : decode cX10_readRodLine 23 = .ok (.goto 5, 3) := by decide +kernel
theorem dX10_readRodLine_26 : decode cX10_readRodLine 26 = .ok (.bipush 43, 2) := by decide +kernel
theorem dX10_readRodLine_28 : decode cX10_readRodLine 28 = .ok (.istore_n 1, 1) := by decide +kernel
theorem dX10_readRodLine_29 : decode cX10_readRodLine 29 = .ok (.iload_n 1, 1) := by decide +kernel
theorem dX10_readRodLine_30 : decode cX10_readRodLine 30 = .ok (.i2l, 1) := by decide +kernel
theorem dX10_readRodLine_31 : decode cX10_readRodLine 31 = .ok (.lconst 1, 1) := by decide +kernel
theorem dX10_readRodLine_32 : decode cX10_readRodLine 32 = .ok (.ldc2_w 210, 3) := by decide +kernel
theorem dX10_readRodLine_35 : decode cX10_readRodLine 35 = .ok (.invokestatic 193, 3) := by decide +kernel
theorem dX10_readRodLine_38 : decode cX10_readRodLine 38 = .ok (.ifCond .ne 11, 3) := by decide +kernel
theorem dX10_readRodLine_41 : decode cX10_readRodLine 41 = .ok (.aload_n 0, 1) := by decide +kernel
theorem dX10_readRodLine_42 : decode cX10_readRodLine 42 = .ok (.iconst 2, 1) := by decide +kernel
theorem dX10_readRodLine_43 : decode cX10_readRodLine 43 = .ok (.invokevirtual 190, 3) := by decide +kernel
theorem dX10_readRodLine_46 : decode cX10_readRodLine 46 = .ok (.goto 17, 3) := by decide +kernel
theorem dX10_readRodLine_49 : decode cX10_readRodLine 49 = .ok (.aload_n 0, 1) := by decide +kernel
theorem dX10_readRodLine_50 : decode cX10_readRodLine 50 = .ok (.getfield 204, 3) := by decide +kernel
theorem dX10_readRodLine_53 : decode cX10_readRodLine 53 = .ok (.bipush 24, 2) := by decide +kernel
theorem dX10_readRodLine_55 : decode cX10_readRodLine 55 = .ok (.if_icmp .ne 8, 3) := by decide +kernel
theorem dX10_readRodLine_58 : decode cX10_readRodLine 58 = .ok (.aload_n 0, 1) := by decide +kernel
theorem dX10_readRodLine_59 : decode cX10_readRodLine 59 = .ok (.iconst 4, 1) := by decide +kernel
theorem dX10_readRodLine_60 : decode cX10_readRodLine 60 = .ok (.invokevirtual 190, 3) := by decide +kernel
theorem dX10_readRodLine_63 : decode cX10_readRodLine 63 = .ok (.aload_n 0, 1) := by decide +kernel
theorem dX10_readRodLine_64 : decode cX10_readRodLine 64 = .ok (.getfield 175, 3) := by decide +kernel
theorem dX10_readRodLine_67 : decode cX10_readRodLine 67 = .ok (.ifCond .eq 4, 3) := by decide +kernel
theorem dX10_readRodLine_70 : decode cX10_readRodLine 70 = .ok (.return_, 1) := by decide +kernel
theorem dX10_readRodLine_71 : decode cX10_readRodLine 71 = .ok (.aload_n 0, 1) := by decide +kernel
theorem dX10_readRodLine_72 : decode cX10_readRodLine 72 = .ok (.invokevirtual 184, 3) := by decide +kernel
theorem dX10_readRodLine_75 : decode cX10_readRodLine 75 = .ok (.iload_n 1, 1) := by decide +kernel
theorem dX10_readRodLine_76 : decode cX10_readRodLine 76 = .ok (.iconst 3, 1) := by decide +kernel
theorem dX10_readRodLine_77 : decode cX10_readRodLine 77 = .ok (.if_icmp .eq 8, 3) := by decide +kernel
theorem dX10_readRodLine_80 : decode cX10_readRodLine 80 = .ok (.iload_n 1, 1) := by decide +kernel
theorem dX10_readRodLine_81 : decode cX10_readRodLine 81 = .ok (.iconst 4, 1) := by decide +kernel
theorem dX10_readRodLine_82 : decode cX10_readRodLine 82 = .ok (.if_icmp .ne 23, 3) := by decide +kernel
theorem dX10_readRodLine_85 : decode cX10_readRodLine 85 = .ok (.aload_n 0, 1) := by decide +kernel
theorem dX10_readRodLine_86 : decode cX10_readRodLine 86 = .ok (.sipush 182, 3) := by decide +kernel
theorem dX10_readRodLine_89 : decode cX10_readRodLine 89 = .ok (.iload_n 1, 1) := by decide +kernel
theorem dX10_readRodLine_90 : decode cX10_readRodLine 90 = .ok (.iconst 3, 1) := by decide +kernel
theorem dX10_readRodLine_91 : decode cX10_readRodLine 91 = .ok (.if_icmp .ne 7, 3) := by decide +kernel
theorem dX10_readRodLine_94 : decode cX10_readRodLine 94 = .ok (.iconst 1, 1) := by decide +kernel
theorem dX10_readRodLine_95 : decode cX10_readRodLine 95 = .ok (.goto 4, 3) := by decide +kernel
theorem dX10_readRodLine_98 : decode cX10_readRodLine 98 = .ok (.iconst 2, 1) := by decide +kernel
theorem dX10_readRodLine_99 : decode cX10_readRodLine 99 = .ok (.invokevirtual 212, 3) := by decide +kernel
theorem dX10_readRodLine_102 : decode cX10_readRodLine 102 = .ok (.goto 90, 3) := by decide +kernel
theorem dX10_readRodLine_105 : decode cX10_readRodLine 105 = .ok (.iload_n 1, 1) := by decide +kernel
theorem dX10_readRodLine_106 : decode cX10_readRodLine 106 = .ok (.bipush 6, 2) := by decide +kernel
theorem dX10_readRodLine_108 : decode cX10_readRodLine 108 = .ok (.if_icmp .ne 19, 3) := by decide +kernel
theorem dX10_readRodLine_111 : decode cX10_readRodLine 111 = .ok (.aload_n 0, 1) := by decide +kernel
theorem dX10_readRodLine_112 : decode cX10_readRodLine 112 = .ok (.getfield 27, 3) := by decide +kernel
theorem dX10_readRodLine_115 : decode cX10_readRodLine 115 = .ok (.iconst 1, 1) := by decide +kernel
theorem dX10_readRodLine_116 : decode cX10_readRodLine 116 = .ok (.aload_n 0, 1) := by decide +kernel
theorem dX10_readRodLine_117 : decode cX10_readRodLine 117 = .ok (.iconst 0, 1) := by decide +kernel
theorem dX10_readRodLine_118 : decode cX10_readRodLine 118 = .ok (.bipush 99, 2) := by decide +kernel
theorem dX10_readRodLine_120 : decode cX10_readRodLine 120 = .ok (.invokevirtual 197, 3) := by decide +kernel
theorem dX10_readRodLine_123 : decode cX10_readRodLine 123 = .ok (.iastore, 1) := by decide +kernel
theorem dX10_readRodLine_124 : decode cX10_readRodLine 124 = .ok (.goto 68, 3) := by decide +kernel
theorem dX10_readRodLine_127 : decode cX10_readRodLine 127 = .ok (.iload_n 1, 1) := by decide +kernel
theorem dX10_readRodLine_128 : decode cX10_readRodLine 128 = .ok (.iconst 1, 1) := by decide +kernel
theorem dX10_readRodLine_129 : decode cX10_readRodLine 129 = .ok (.if_icmp .ne 13, 3) := by decide +kernel
theorem dX10_readRodLine_132 : decode cX10_readRodLine 132 = .ok (.aload_n 0, 1) := by decide +kernel
theorem dX10_readRodLine_133 : decode cX10_readRodLine 133 = .ok (.iconst 1, 1) := by decide +kernel
theorem dX10_readRodLine_134 : decode cX10_readRodLine 134 = .ok (.bipush 99, 2) := by decide +kernel
theorem dX10_readRodLine_136 : decode cX10_readRodLine 136 = .ok (.invokevirtual 197, 3) := by decide +kernel
theorem dX10_readRodLine_139 : decode cX10_readRodLine 139 = .ok (.goto 26, 3) := by decide +kernel
theorem dX10_readRodLine_142 : decode cX10_readRodLine 142 = .ok (.iload_n 1, 1) := by decide +kernel
theorem dX10_readRodLine_143 : decode cX10_readRodLine 143 = .ok (.iconst 2, 1) := by decide +kernel
theorem dX10_readRodLine_144 : decode cX10_readRodLine 144 = .ok (.if_icmp .ne 14, 3) := by decide +kernel
theorem dX10_readRodLine_147 : decode cX10_readRodLine 147 = .ok (.aload_n 0, 1) := by decide +kernel
theorem dX10_readRodLine_148 : decode cX10_readRodLine 148 = .ok (.iconst 1, 1) := by decide +kernel
theorem dX10_readRodLine_149 : decode cX10_readRodLine 149 = .ok (.sipush 999, 3) := by decide +kernel
theorem dX10_readRodLine_152 : decode cX10_readRodLine 152 = .ok (.invokevirtual 197, 3) := by decide +kernel
theorem dX10_readRodLine_155 : decode cX10_readRodLine 155 = .ok (.goto 10, 3) := by decide +kernel
theorem dX10_readRodLine_158 : decode cX10_readRodLine 158 = .ok (.aload_n 0, 1) := by decide +kernel
theorem dX10_readRodLine_159 : decode cX10_readRodLine 159 = .ok (.iconst 0, 1) := by decide +kernel
theorem dX10_readRodLine_160 : decode cX10_readRodLine 160 = .ok (.bipush 99, 2) := by decide +kernel
theorem dX10_readRodLine_162 : decode cX10_readRodLine 162 = .ok (.invokevirtual 197, 3) := by decide +kernel
theorem dX10_readRodLine_165 : decode cX10_readRodLine 165 = .ok (.istore_n 2, 1) := by decide +kernel
theorem dX10_readRodLine_166 : decode cX10_readRodLine 166 = .ok (.aload_n 0, 1) := by decide +kernel
theorem dX10_readRodLine_167 : decode cX10_readRodLine 167 = .ok (.iload_n 1, 1) := by decide +kernel
theorem dX10_readRodLine_168 : decode cX10_readRodLine 168 = .ok (.iconst 1, 1) := by decide +kernel
theorem dX10_readRodLine_169 : decode cX10_readRodLine 169 = .ok (.if_icmp .ne 7, 3) := by decide +kernel
theorem dX10_readRodLine_172 : decode cX10_readRodLine 172 = .ok (.iconst 2, 1) := by decide +kernel
theorem dX10_readRodLine_173 : decode cX10_readRodLine 173 = .ok (.goto 15, 3) := by decide +kernel
theorem dX10_readRodLine_176 : decode cX10_readRodLine 176 = .ok (.iload_n 1, 1) := by decide +kernel
theorem dX10_readRodLine_177 : decode cX10_readRodLine 177 = .ok (.iconst 2, 1) := by decide +kernel
theorem dX10_readRodLine_178 : decode cX10_readRodLine 178 = .ok (.if_icmp .ne 8, 3) := by decide +kernel
theorem dX10_readRodLine_181 : decode cX10_readRodLine 181 = .ok (.bipush 62, 2) := by decide +kernel
theorem dX10_readRodLine_183 : decode cX10_readRodLine 183 = .ok (.goto 5, 3) := by decide +kernel
theorem dX10_readRodLine_186 : decode cX10_readRodLine 186 = .ok (.bipush 122, 2) := by decide +kernel
theorem dX10_readRodLine_188 : decode cX10_readRodLine 188 = .ok (.iload_n 2, 1) := by decide +kernel
theorem dX10_readRodLine_189 : decode cX10_readRodLine 189 = .ok (.invokevirtual 212, 3) := by decide +kernel
theorem dX10_readRodLine_192 : decode cX10_readRodLine 192 = .ok (.return_, 1) := by decide +kernel
theorem dX10_readStep_0 : decode cX10_readStep 0 = .ok (.aload_n 0, 1) := by decide +kernel
theorem dX10_readStep_1 : decode cX10_readStep 1 = .ok (.getfield 175, 3) := by decide +kernel
theorem dX10_readStep_4 : decode cX10_readStep 4 = .ok (.ifCond .ne 10, 3) := by decide +kernel
theorem dX10_readStep_7 : decode cX10_readStep 7 = .ok (.aload_n 0, 1) := by decide +kernel
theorem dX10_readStep_8 : decode cX10_readStep 8 = .ok (.getfield 159, 3) := by decide +kernel
theorem dX10_readStep_11 : decode cX10_readStep 11 = .ok (.goto 5, 3) := by decide +kernel
theorem dX10_readStep_14 : decode cX10_readStep 14 = .ok (.bipush 43, 2) := by decide +kernel
theorem dX10_readStep_16 : decode cX10_readStep 16 = .ok (.istore_n 1, 1) := by decide +kernel
theorem dX10_readStep_17 : decode cX10_readStep 17 = .ok (.iload_n 1, 1) := by decide +kernel
theorem dX10_readStep_18 : decode cX10_readStep 18 = .ok (.i2l, 1) := by decide +kernel
theorem dX10_readStep_19 : decode cX10_readStep 19 = .ok (.ldc2_w 216, 3) := by decide +kernel
theorem dX10_readStep_22 : decode cX10_readStep 22 = .ok (.ldc2_w 218, 3) := by decide +kernel
theorem dX10_readStep_25 : decode cX10_readStep 25 = .ok (.invokestatic 193, 3) := by decide +kernel
theorem dX10_readStep_28 : decode cX10_readStep 28 = .ok (.ifCond .ne 11, 3) := by decide +kernel
theorem dX10_readStep_31 : decode cX10_readStep 31 = .ok (.aload_n 0, 1) := by decide +kernel
theorem dX10_readStep_32 : decode cX10_readStep 32 = .ok (.iconst 2, 1) := by decide +kernel
theorem dX10_readStep_33 : decode cX10_readStep 33 = .ok (.invokevirtual 190, 3) := by decide +kernel
theorem dX10_readStep_36 : decode cX10_readStep 36 = .ok (.goto 17, 3) := by decide +kernel
theorem dX10_readStep_39 : decode cX10_readStep 39 = .ok (.aload_n 0, 1) := by decide +kernel
theorem dX10_readStep_40 : decode cX10_readStep 40 = .ok (.getfield 204, 3) := by decide +kernel
theorem dX10_readStep_43 : decode cX10_readStep 43 = .ok (.bipush 12, 2) := by decide +kernel
theorem dX10_readStep_45 : decode cX10_readStep 45 = .ok (.if_icmp .ne 8, 3) := by decide +kernel
theorem dX10_readStep_48 : decode cX10_readStep 48 = .ok (.aload_n 0, 1) := by decide +kernel
theorem dX10_readStep_49 : decode cX10_readStep 49 = .ok (.iconst 4, 1) := by decide +kernel
theorem dX10_readStep_50 : decode cX10_readStep 50 = .ok (.invokevirtual 190, 3) := by decide +kernel
theorem dX10_readStep_53 : decode cX10_readStep 53 = .ok (.aload_n 0, 1) := by decide +kernel
theorem dX10_readStep_54 : decode cX10_readStep 54 = .ok (.getfield 175, 3) := by decide +kernel
theorem dX10_readStep_57 : decode cX10_readStep 57 = .ok (.ifCond .eq 4, 3) := by decide +kernel
theorem dX10_readStep_60 : decode cX10_readStep 60 = .ok (.return_, 1) := by decide +kernel
theorem dX10_readStep_61 : decode cX10_readStep 61 = .ok (.aload_n 0, 1) := by decide +kernel
theorem dX10_readStep_62 : decode cX10_readStep 62 = .ok (.invokevirtual 184, 3) := by decide +kernel
theorem dX10_readStep_65 : decode cX10_readStep 65 = .ok (.aload_n 0, 1) := by decide +kernel
theorem dX10_readStep_66 : decode cX10_readStep 66 = .ok (.getfield 27, 3) := by decide +kernel
theorem dX10_readStep_69 : decode cX10_readStep 69 = .ok (.iconst 1, 1) := by decide +kernel
theorem dX10_readStep_70 : decode cX10_readStep 70 = .ok (.aload_n 0, 1) := by decide +kernel
theorem dX10_readStep_71 : decode cX10_readStep 71 = .ok (.getfield 204, 3) := by decide +kernel
theorem dX10_readStep_74 : decode cX10_readStep 74 = .ok (.iadd, 1) := by decide +kernel
theorem dX10_readStep_75 : decode cX10_readStep 75 = .ok (.iload_n 1, 1) := by decide +kernel
theorem dX10_readStep_76 : decode cX10_readStep 76 = .ok (.bipush 9, 2) := by decide +kernel
theorem dX10_readStep_78 : decode cX10_readStep 78 = .ok (.isub, 1) := by decide +kernel
theorem dX10_readStep_79 : decode cX10_readStep 79 = .ok (.iastore, 1) := by decide +kernel
theorem dX10_readStep_80 : decode cX10_readStep 80 = .ok (.aload_n 0, 1) := by decide +kernel
theorem dX10_readStep_81 : decode cX10_readStep 81 = .ok (.getfield 27, 3) := by decide +kernel
theorem dX10_readStep_84 : decode cX10_readStep 84 = .ok (.bipush 13, 2) := by decide +kernel
theorem dX10_readStep_86 : decode cX10_readStep 86 = .ok (.aload_n 0, 1) := by decide +kernel
theorem dX10_readStep_87 : decode cX10_readStep 87 = .ok (.getfield 204, 3) := by decide +kernel
theorem dX10_readStep_90 : decode cX10_readStep 90 = .ok (.iadd, 1) := by decide +kernel
theorem dX10_readStep_91 : decode cX10_readStep 91 = .ok (.iload_n 1, 1) := by decide +kernel
theorem dX10_readStep_92 : decode cX10_readStep 92 = .ok (.bipush 12, 2) := by decide +kernel
theorem dX10_readStep_94 : decode cX10_readStep 94 = .ok (.if_icmp .ne 7, 3) := by decide +kernel
theorem dX10_readStep_97 : decode cX10_readStep 97 = .ok (.iconst 0, 1) := by decide +kernel
theorem dX10_readStep_98 : decode cX10_readStep 98 = .ok (.goto 10, 3) := by decide +kernel
theorem dX10_readStep_101 : decode cX10_readStep 101 = .ok (.aload_n 0, 1) := by decide +kernel
theorem dX10_readStep_102 : decode cX10_readStep 102 = .ok (.iconst 0, 1) := by decide +kernel
theorem dX10_readStep_103 : decode cX10_readStep 103 = .ok (.bipush 99, 2) := by decide +kernel
theorem dX10_readStep_105 : decode cX10_readStep 105 = .ok (.invokevirtual 197, 3) := by decide +kernel
theorem dX10_readStep_108 : decode cX10_readStep 108 = .ok (.iastore, 1) := by decide +kernel
theorem dX10_readStep_109 : decode cX10_readStep 109 = .ok (.aload_n 0, 1) := by decide +kernel
theorem dX10_readStep_110 : decode cX10_readStep 110 = .ok (.bipush 13, 2) := by decide +kernel
theorem dX10_readStep_112 : decode cX10_readStep 112 = .ok (.invokevirtual 201, 3) := by decide +kernel
theorem dX10_readStep_115 : decode cX10_readStep 115 = .ok (.aload_n 0, 1) := by decide +kernel
theorem dX10_readStep_116 : decode cX10_readStep 116 = .ok (.getfield 27, 3) := by decide +kernel
theorem dX10_readStep_119 : decode cX10_readStep 119 = .ok (.bipush 25, 2) := by decide +kernel
theorem dX10_readStep_121 : decode cX10_readStep 121 = .ok (.aload_n 0, 1) := by decide +kernel
theorem dX10_readStep_122 : decode cX10_readStep 122 = .ok (.getfield 204, 3) := by decide +kernel
theorem dX10_readStep_125 : decode cX10_readStep 125 = .ok (.iadd, 1) := by decide +kernel
theorem dX10_readStep_126 : decode cX10_readStep 126 = .ok (.aload_n 0, 1) := by decide +kernel
theorem dX10_readStep_127 : decode cX10_readStep 127 = .ok (.iconst 1, 1) := by decide +kernel
theorem dX10_readStep_128 : decode cX10_readStep 128 = .ok (.sipush 200, 3) := by decide +kernel
theorem dX10_readStep_131 : decode cX10_readStep 131 = .ok (.invokevirtual 197, 3) := by decide +kernel
theorem dX10_readStep_134 : decode cX10_readStep 134 = .ok (.iastore, 1) := by decide +kernel
theorem dX10_readStep_135 : decode cX10_readStep 135 = .ok (.return_, 1) := by decide +kernel
theorem dX10_readLaw_0 : decode cX10_readLaw 0 = .ok (.aload_n 0, 1) := by decide +kernel
theorem dX10_readLaw_1 : decode cX10_readLaw 1 = .ok (.getfield 175, 3) := by decide +kernel
theorem dX10_readLaw_4 : decode cX10_readLaw 4 = .ok (.ifCond .ne 10, 3) := by decide +kernel
theorem dX10_readLaw_7 : decode cX10_readLaw 7 = .ok (.aload_n 0, 1) := by decide +kernel
theorem dX10_readLaw_8 : decode cX10_readLaw 8 = .ok (.getfield 159, 3) := by decide +kernel
theorem dX10_readLaw_11 : decode cX10_readLaw 11 = .ok (.goto 5, 3) := by decide +kernel
theorem dX10_readLaw_14 : decode cX10_readLaw 14 = .ok (.bipush 43, 2) := by decide +kernel
theorem dX10_readLaw_16 : decode cX10_readLaw 16 = .ok (.istore_n 1, 1) := by decide +kernel
theorem dX10_readLaw_17 : decode cX10_readLaw 17 = .ok (.iload_n 1, 1) := by decide +kernel
theorem dX10_readLaw_18 : decode cX10_readLaw 18 = .ok (.i2l, 1) := by decide +kernel
theorem dX10_readLaw_19 : decode cX10_readLaw 19 = .ok (.ldc2_w 220, 3) := by decide +kernel
theorem dX10_readLaw_22 : decode cX10_readLaw 22 = .ok (.ldc2_w 222, 3) := by decide +kernel
theorem dX10_readLaw_25 : decode cX10_readLaw 25 = .ok (.invokestatic 193, 3) := by decide +kernel
theorem dX10_readLaw_28 : decode cX10_readLaw 28 = .ok (.ifCond .ne 11, 3) := by decide +kernel
theorem dX10_readLaw_31 : decode cX10_readLaw 31 = .ok (.aload_n 0, 1) := by decide +kernel
theorem dX10_readLaw_32 : decode cX10_readLaw 32 = .ok (.iconst 2, 1) := by decide +kernel
theorem dX10_readLaw_33 : decode cX10_readLaw 33 = .ok (.invokevirtual 190, 3) := by decide +kernel
theorem dX10_readLaw_36 : decode cX10_readLaw 36 = .ok (.goto 17, 3) := by decide +kernel
theorem dX10_readLaw_39 : decode cX10_readLaw 39 = .ok (.aload_n 0, 1) := by decide +kernel
theorem dX10_readLaw_40 : decode cX10_readLaw 40 = .ok (.getfield 204, 3) := by decide +kernel
theorem dX10_readLaw_43 : decode cX10_readLaw 43 = .ok (.bipush 24, 2) := by decide +kernel
theorem dX10_readLaw_45 : decode cX10_readLaw 45 = .ok (.if_icmp .ne 8, 3) := by decide +kernel
theorem dX10_readLaw_48 : decode cX10_readLaw 48 = .ok (.aload_n 0, 1) := by decide +kernel
theorem dX10_readLaw_49 : decode cX10_readLaw 49 = .ok (.iconst 4, 1) := by decide +kernel
theorem dX10_readLaw_50 : decode cX10_readLaw 50 = .ok (.invokevirtual 190, 3) := by decide +kernel
theorem dX10_readLaw_53 : decode cX10_readLaw 53 = .ok (.aload_n 0, 1) := by decide +kernel
theorem dX10_readLaw_54 : decode cX10_readLaw 54 = .ok (.getfield 175, 3) := by decide +kernel
theorem dX10_readLaw_57 : decode cX10_readLaw 57 = .ok (.ifCond .eq 4, 3) := by decide +kernel
theorem dX10_readLaw_60 : decode cX10_readLaw 60 = .ok (.return_, 1) := by decide +kernel
theorem dX10_readLaw_61 : decode cX10_readLaw 61 = .ok (.aload_n 0, 1) := by decide +kernel
theorem dX10_readLaw_62 : decode cX10_readLaw 62 = .ok (.invokevirtual 184, 3) := by decide +kernel
theorem dX10_readLaw_65 : decode cX10_readLaw 65 = .ok (.iload_n 1, 1) := by decide +kernel
theorem dX10_readLaw_66 : decode cX10_readLaw 66 = .ok (.bipush 16, 2) := by decide +kernel
theorem dX10_readLaw_68 : decode cX10_readLaw 68 = .ok (.if_icmp .eq 9, 3) := by decide +kernel
theorem dX10_readLaw_71 : decode cX10_readLaw 71 = .ok (.iload_n 1, 1) := by decide +kernel
theorem dX10_readLaw_72 : decode cX10_readLaw 72 = .ok (.bipush 17, 2) := by decide +kernel
theorem dX10_readLaw_74 : decode cX10_readLaw 74 = .ok (.if_icmp .ne 7, 3) := by decide +kernel
theorem dX10_readLaw_77 : decode cX10_readLaw 77 = .ok (.iconst 1, 1) := by decide +kernel
theorem dX10_readLaw_78 : decode cX10_readLaw 78 = .ok (.goto 4, 3) := by decide +kernel
theorem dX10_readLaw_81 : decode cX10_readLaw 81 = .ok (.iconst 0, 1) := by decide +kernel
theorem dX10_readLaw_82 : decode cX10_readLaw 82 = .ok (.istore_n 2, 1) := by decide +kernel
theorem dX10_readLaw_83 : decode cX10_readLaw 83 = .ok (.iload_n 1, 1) := by decide +kernel
theorem dX10_readLaw_84 : decode cX10_readLaw 84 = .ok (.bipush 14, 2) := by decide +kernel
theorem dX10_readLaw_86 : decode cX10_readLaw 86 = .ok (.if_icmp .ne 9, 3) := by decide +kernel
theorem dX10_readLaw_89 : decode cX10_readLaw 89 = .ok (.sipush 200, 3) := by decide +kernel
theorem dX10_readLaw_92 : decode cX10_readLaw 92 = .ok (.goto 26, 3) := by decide +kernel
theorem dX10_readLaw_95 : decode cX10_readLaw 95 = .ok (.iload_n 1, 1) := by decide +kernel
theorem dX10_readLaw_96 : decode cX10_readLaw 96 = .ok (.bipush 15, 2) := by decide +kernel
theorem dX10_readLaw_98 : decode cX10_readLaw 98 = .ok (.if_icmp .ne 8, 3) := by decide +kernel
theorem dX10_readLaw_101 : decode cX10_readLaw 101 = .ok (.bipush 99, 2) := by decide +kernel
theorem dX10_readLaw_103 : decode cX10_readLaw 103 = .ok (.goto 15, 3) := by decide +kernel
theorem dX10_readLaw_106 : decode cX10_readLaw 106 = .ok (.iload_n 2, 1) := by decide +kernel
theorem dX10_readLaw_107 : decode cX10_readLaw 107 = .ok (.iconst 1, 1) := by decide +kernel
theorem dX10_readLaw_108 : decode cX10_readLaw 108 = .ok (.if_icmp .ne 8, 3) := by decide +kernel
theorem dX10_readLaw_111 : decode cX10_readLaw 111 = .ok (.bipush 9, 2) := by decide +kernel
theorem dX10_readLaw_113 : decode cX10_readLaw 113 = .ok (.goto 5, 3) := by decide +kernel
theorem dX10_readLaw_116 : decode cX10_readLaw 116 = .ok (.bipush 100, 2) := by decide +kernel
theorem dX10_readLaw_118 : decode cX10_readLaw 118 = .ok (.istore_n 3, 1) := by decide +kernel
theorem dX10_readLaw_119 : decode cX10_readLaw 119 = .ok (.aload_n 0, 1) := by decide +kernel
theorem dX10_readLaw_120 : decode cX10_readLaw 120 = .ok (.getfield 27, 3) := by decide +kernel
theorem dX10_readLaw_123 : decode cX10_readLaw 123 = .ok (.iload_n 1, 1) := by decide +kernel
theorem dX10_readLaw_124 : decode cX10_readLaw 124 = .ok (.bipush 14, 2) := by decide +kernel
theorem dX10_readLaw_126 : decode cX10_readLaw 126 = .ok (.isub, 1) := by decide +kernel
theorem dX10_readLaw_127 : decode cX10_readLaw 127 = .ok (.aload_n 0, 1) := by decide +kernel
theorem dX10_readLaw_128 : decode cX10_readLaw 128 = .ok (.iload_n 2, 1) := by decide +kernel
theorem dX10_readLaw_129 : decode cX10_readLaw 129 = .ok (.iload_n 3, 1) := by decide +kernel
theorem dX10_readLaw_130 : decode cX10_readLaw 130 = .ok (.invokevirtual 197, 3) := by decide +kernel
theorem dX10_readLaw_133 : decode cX10_readLaw 133 = .ok (.iastore, 1) := by decide +kernel
theorem dX10_readLaw_134 : decode cX10_readLaw 134 = .ok (.return_, 1) := by decide +kernel
theorem dX10_emit_0 : decode cX10_emit 0 = .ok (.aload_n 0, 1) := by decide +kernel
theorem dX10_emit_1 : decode cX10_emit 1 = .ok (.getfield 27, 3) := by decide +kernel
theorem dX10_emit_4 : decode cX10_emit 4 = .ok (.bipush 17, 2) := by decide +kernel
theorem dX10_emit_6 : decode cX10_emit 6 = .ok (.iconst 2, 1) := by decide +kernel
theorem dX10_emit_7 : decode cX10_emit 7 = .ok (.aload_n 0, 1) := by decide +kernel
theorem dX10_emit_8 : decode cX10_emit 8 = .ok (.getfield 224, 3) := by decide +kernel
theorem dX10_emit_11 : decode cX10_emit 11 = .ok (.imul, 1) := by decide +kernel
theorem dX10_emit_12 : decode cX10_emit 12 = .ok (.iadd, 1) := by decide +kernel
theorem dX10_emit_13 : decode cX10_emit 13 = .ok (.iload_n 1, 1) := by decide +kernel
theorem dX10_emit_14 : decode cX10_emit 14 = .ok (.iastore, 1) := by decide +kernel
theorem dX10_emit_15 : decode cX10_emit 15 = .ok (.aload_n 0, 1) := by decide +kernel
theorem dX10_emit_16 : decode cX10_emit 16 = .ok (.getfield 27, 3) := by decide +kernel
theorem dX10_emit_19 : decode cX10_emit 19 = .ok (.bipush 17, 2) := by decide +kernel
theorem dX10_emit_21 : decode cX10_emit 21 = .ok (.iconst 2, 1) := by decide +kernel
theorem dX10_emit_22 : decode cX10_emit 22 = .ok (.aload_n 0, 1) := by decide +kernel
theorem dX10_emit_23 : decode cX10_emit 23 = .ok (.getfield 224, 3) := by decide +kernel
theorem dX10_emit_26 : decode cX10_emit 26 = .ok (.imul, 1) := by decide +kernel
theorem dX10_emit_27 : decode cX10_emit 27 = .ok (.iadd, 1) := by decide +kernel
theorem dX10_emit_28 : decode cX10_emit 28 = .ok (.iconst 1, 1) := by decide +kernel
theorem dX10_emit_29 : decode cX10_emit 29 = .ok (.iadd, 1) := by decide +kernel
theorem dX10_emit_30 : decode cX10_emit 30 = .ok (.iload_n 2, 1) := by decide +kernel
theorem dX10_emit_31 : decode cX10_emit 31 = .ok (.iastore, 1) := by decide +kernel
theorem dX10_emit_32 : decode cX10_emit 32 = .ok (.aload_n 0, 1) := by decide +kernel
theorem dX10_emit_33 : decode cX10_emit 33 = .ok (.dup, 1) := by decide +kernel
theorem dX10_emit_34 : decode cX10_emit 34 = .ok (.getfield 224, 3) := by decide +kernel
theorem dX10_emit_37 : decode cX10_emit 37 = .ok (.iconst 1, 1) := by decide +kernel
theorem dX10_emit_38 : decode cX10_emit 38 = .ok (.iadd, 1) := by decide +kernel
theorem dX10_emit_39 : decode cX10_emit 39 = .ok (.putfield 224, 3) := by decide +kernel
theorem dX10_emit_42 : decode cX10_emit 42 = .ok (.return_, 1) := by decide +kernel
theorem dX10_readTest_0 : decode cX10_readTest 0 = .ok (.aload_n 0, 1) := by decide +kernel
theorem dX10_readTest_1 : decode cX10_readTest 1 = .ok (.invokevirtual 227, 3) := by decide +kernel
theorem dX10_readTest_4 : decode cX10_readTest 4 = .ok (.aload_n 0, 1) := by decide +kernel
theorem dX10_readTest_5 : decode cX10_readTest 5 = .ok (.bipush 24, 2) := by decide +kernel
theorem dX10_readTest_7 : decode cX10_readTest 7 = .ok (.invokevirtual 187, 3) := by decide +kernel
theorem dX10_readTest_10 : decode cX10_readTest 10 = .ok (.ifCond .eq 24, 3) := by decide +kernel
theorem dX10_readTest_13 : decode cX10_readTest 13 = .ok (.aload_n 0, 1) := by decide +kernel
theorem dX10_readTest_14 : decode cX10_readTest 14 = .ok (.invokevirtual 227, 3) := by decide +kernel
theorem dX10_readTest_17 : decode cX10_readTest 17 = .ok (.aload_n 0, 1) := by decide +kernel
theorem dX10_readTest_18 : decode cX10_readTest 18 = .ok (.getfield 175, 3) := by decide +kernel
theorem dX10_readTest_21 : decode cX10_readTest 21 = .ok (.ifCond .ne (-17), 3) := by decide +kernel
theorem dX10_readTest_24 : decode cX10_readTest 24 = .ok (.aload_n 0, 1) := by decide +kernel
theorem dX10_readTest_25 : decode cX10_readTest 25 = .ok (.bipush 24, 2) := by decide +kernel
theorem dX10_readTest_27 : decode cX10_readTest 27 = .ok (.iconst 0, 1) := by decide +kernel
theorem dX10_readTest_28 : decode cX10_readTest 28 = .ok (.invokevirtual 230, 3) := by decide +kernel
theorem dX10_readTest_31 : decode cX10_readTest 31 = .ok (.goto (-27), 3) := by decide +kernel
theorem dX10_readTest_34 : decode cX10_readTest 34 = .ok (.return_, 1) := by decide +kernel
theorem dX10_readPart_0 : decode cX10_readPart 0 = .ok (.aload_n 0, 1) := by decide +kernel
theorem dX10_readPart_1 : decode cX10_readPart 1 = .ok (.invokevirtual 233, 3) := by decide +kernel
theorem dX10_readPart_4 : decode cX10_readPart 4 = .ok (.aload_n 0, 1) := by decide +kernel
theorem dX10_readPart_5 : decode cX10_readPart 5 = .ok (.bipush 25, 2) := by decide +kernel
theorem dX10_readPart_7 : decode cX10_readPart 7 = .ok (.invokevirtual 187, 3) := by decide +kernel
theorem dX10_readPart_10 : decode cX10_readPart 10 = .ok (.ifCond .eq 24, 3) := by decide +kernel
theorem dX10_readPart_13 : decode cX10_readPart 13 = .ok (.aload_n 0, 1) := by decide +kernel
theorem dX10_readPart_14 : decode cX10_readPart 14 = .ok (.invokevirtual 233, 3) := by decide +kernel
theorem dX10_readPart_17 : decode cX10_readPart 17 = .ok (.aload_n 0, 1) := by decide +kernel
theorem dX10_readPart_18 : decode cX10_readPart 18 = .ok (.getfield 175, 3) := by decide +kernel
theorem dX10_readPart_21 : decode cX10_readPart 21 = .ok (.ifCond .ne (-17), 3) := by decide +kernel
theorem dX10_readPart_24 : decode cX10_readPart 24 = .ok (.aload_n 0, 1) := by decide +kernel
theorem dX10_readPart_25 : decode cX10_readPart 25 = .ok (.bipush 25, 2) := by decide +kernel
theorem dX10_readPart_27 : decode cX10_readPart 27 = .ok (.iconst 0, 1) := by decide +kernel
theorem dX10_readPart_28 : decode cX10_readPart 28 = .ok (.invokevirtual 230, 3) := by decide +kernel
theorem dX10_readPart_31 : decode cX10_readPart 31 = .ok (.goto (-27), 3) := by decide +kernel
theorem dX10_readPart_34 : decode cX10_readPart 34 = .ok (.return_, 1) := by decide +kernel
theorem dX10_readFact_0 : decode cX10_readFact 0 = .ok (.aload_n 0, 1) := by decide +kernel
theorem dX10_readFact_1 : decode cX10_readFact 1 = .ok (.getfield 175, 3) := by decide +kernel
theorem dX10_readFact_4 : decode cX10_readFact 4 = .ok (.ifCond .eq 4, 3) := by decide +kernel
theorem dX10_readFact_7 : decode cX10_readFact 7 = .ok (.return_, 1) := by decide +kernel
theorem dX10_readFact_8 : decode cX10_readFact 8 = .ok (.aload_n 0, 1) := by decide +kernel
theorem dX10_readFact_9 : decode cX10_readFact 9 = .ok (.getfield 159, 3) := by decide +kernel
theorem dX10_readFact_12 : decode cX10_readFact 12 = .ok (.istore_n 1, 1) := by decide +kernel
theorem dX10_readFact_13 : decode cX10_readFact 13 = .ok (.iload_n 1, 1) := by decide +kernel
theorem dX10_readFact_14 : decode cX10_readFact 14 = .ok (.bipush 26, 2) := by decide +kernel
theorem dX10_readFact_16 : decode cX10_readFact 16 = .ok (.if_icmp .eq 9, 3) := by decide +kernel
theorem dX10_readFact_19 : decode cX10_readFact 19 = .ok (.iload_n 1, 1) := by decide +kernel
theorem dX10_readFact_20 : decode cX10_readFact 20 = .ok (.bipush 40, 2) := by decide +kernel
theorem dX10_readFact_22 : decode cX10_readFact 22 = .ok (.if_icmp .ne 96, 3) := by decide +kernel
theorem dX10_readFact_25 : decode cX10_readFact 25 = .ok (.aload_n 0, 1) := by decide +kernel
theorem dX10_readFact_26 : decode cX10_readFact 26 = .ok (.getfield 236, 3) := by decide +kernel
theorem dX10_readFact_29 : decode cX10_readFact 29 = .ok (.bipush 8, 2) := by decide +kernel
theorem dX10_readFact_31 : decode cX10_readFact 31 = .ok (.if_icmp .ne 8, 3) := by decide +kernel
theorem dX10_readFact_34 : decode cX10_readFact 34 = .ok (.aload_n 0, 1) := by decide +kernel
theorem dX10_readFact_35 : decode cX10_readFact 35 = .ok (.iconst 5, 1) := by decide +kernel
theorem dX10_readFact_36 : decode cX10_readFact 36 = .ok (.invokevirtual 190, 3) := by decide +kernel
theorem dX10_readFact_39 : decode cX10_readFact 39 = .ok (.aload_n 0, 1) := by decide +kernel
theorem dX10_readFact_40 : decode cX10_readFact 40 = .ok (.getfield 175, 3) := by decide +kernel
theorem dX10_readFact_43 : decode cX10_readFact 43 = .ok (.ifCond .eq 4, 3) := by decide +kernel
theorem dX10_readFact_46 : decode cX10_readFact 46 = .ok (.return_, 1) := by decide +kernel
theorem dX10_readFact_47 : decode cX10_readFact 47 = .ok (.aload_n 0, 1) := by decide +kernel
theorem dX10_readFact_48 : decode cX10_readFact 48 = .ok (.invokevirtual 184, 3) := by decide +kernel
theorem dX10_readFact_51 : decode cX10_readFact 51 = .ok (.aload_n 0, 1) := by decide +kernel
theorem dX10_readFact_52 : decode cX10_readFact 52 = .ok (.dup, 1) := by decide +kernel
theorem dX10_readFact_53 : decode cX10_readFact 53 = .ok (.getfield 236, 3) := by decide +kernel
theorem dX10_readFact_56 : decode cX10_readFact 56 = .ok (.iconst 1, 1) := by decide +kernel
theorem dX10_readFact_57 : decode cX10_readFact 57 = .ok (.iadd, 1) := by decide +kernel
theorem dX10_readFact_58 : decode cX10_readFact 58 = .ok (.putfield 236, 3) := by decide +kernel
theorem dX10_readFact_61 : decode cX10_readFact 61 = .ok (.iload_n 1, 1) := by decide +kernel
theorem dX10_readFact_62 : decode cX10_readFact 62 = .ok (.bipush 26, 2) := by decide +kernel
theorem dX10_readFact_64 : decode cX10_readFact 64 = .ok (.if_icmp .ne 10, 3) := by decide +kernel
theorem dX10_readFact_67 : decode cX10_readFact 67 = .ok (.aload_n 0, 1) := by decide +kernel
theorem dX10_readFact_68 : decode cX10_readFact 68 = .ok (.invokevirtual 233, 3) := by decide +kernel
theorem dX10_readFact_71 : decode cX10_readFact 71 = .ok (.goto 7, 3) := by decide +kernel
theorem dX10_readFact_74 : decode cX10_readFact 74 = .ok (.aload_n 0, 1) := by decide +kernel
theorem dX10_readFact_75 : decode cX10_readFact 75 = .ok (.invokevirtual 239, 3) := by decide +kernel
theorem dX10_readFact_78 : decode cX10_readFact 78 = .ok (.aload_n 0, 1) := by decide +kernel
theorem dX10_readFact_79 : decode cX10_readFact 79 = .ok (.dup, 1) := by decide +kernel
theorem dX10_readFact_80 : decode cX10_readFact 80 = .ok (.getfield 236, 3) := by decide +kernel
theorem dX10_readFact_83 : decode cX10_readFact 83 = .ok (.iconst 1, 1) := by decide +kernel
theorem dX10_readFact_84 : decode cX10_readFact 84 = .ok (.isub, 1) := by decide +kernel
theorem dX10_readFact_85 : decode cX10_readFact 85 = .ok (.putfield 236, 3) := by decide +kernel
theorem dX10_readFact_88 : decode cX10_readFact 88 = .ok (.iload_n 1, 1) := by decide +kernel
theorem dX10_readFact_89 : decode cX10_readFact 89 = .ok (.bipush 40, 2) := by decide +kernel
theorem dX10_readFact_91 : decode cX10_readFact 91 = .ok (.if_icmp .ne 12, 3) := by decide +kernel
theorem dX10_readFact_94 : decode cX10_readFact 94 = .ok (.aload_n 0, 1) := by decide +kernel
theorem dX10_readFact_95 : decode cX10_readFact 95 = .ok (.bipush 41, 2) := by decide +kernel
theorem dX10_readFact_97 : decode cX10_readFact 97 = .ok (.invokevirtual 201, 3) := by decide +kernel
theorem dX10_readFact_100 : decode cX10_readFact 100 = .ok (.goto 17, 3) := by decide +kernel
theorem dX10_readFact_103 : decode cX10_readFact 103 = .ok (.aload_n 0, 1) := by decide +kernel
theorem dX10_readFact_104 : decode cX10_readFact 104 = .ok (.getfield 175, 3) := by decide +kernel
theorem dX10_readFact_107 : decode cX10_readFact 107 = .ok (.ifCond .ne 10, 3) := by decide +kernel
theorem dX10_readFact_110 : decode cX10_readFact 110 = .ok (.aload_n 0, 1) := by decide +kernel
theorem dX10_readFact_111 : decode cX10_readFact 111 = .ok (.bipush 26, 2) := by decide +kernel
theorem dX10_readFact_113 : decode cX10_readFact 113 = .ok (.iconst 0, 1) := by decide +kernel
theorem dX10_readFact_114 : decode cX10_readFact 114 = .ok (.invokevirtual 230, 3) := by decide +kernel
theorem dX10_readFact_117 : decode cX10_readFact 117 = .ok (.return_, 1) := by decide +kernel
theorem dX10_readFact_118 : decode cX10_readFact 118 = .ok (.iload_n 1, 1) := by decide +kernel
theorem dX10_readFact_119 : decode cX10_readFact 119 = .ok (.i2l, 1) := by decide +kernel
theorem dX10_readFact_120 : decode cX10_readFact 120 = .ok (.ldc2_w 242, 3) := by decide +kernel
theorem dX10_readFact_123 : decode cX10_readFact 123 = .ok (.ldc2_w 244, 3) := by decide +kernel
theorem dX10_readFact_126 : decode cX10_readFact 126 = .ok (.invokestatic 193, 3) := by decide +kernel
theorem dX10_readFact_129 : decode cX10_readFact 129 = .ok (.ifCond .ne 8, 3) := by decide +kernel
theorem dX10_readFact_132 : decode cX10_readFact 132 = .ok (.aload_n 0, 1) := by decide +kernel
theorem dX10_readFact_133 : decode cX10_readFact 133 = .ok (.iconst 2, 1) := by decide +kernel
theorem dX10_readFact_134 : decode cX10_readFact 134 = .ok (.invokevirtual 190, 3) := by decide +kernel
theorem dX10_readFact_137 : decode cX10_readFact 137 = .ok (.aload_n 0, 1) := by decide +kernel
theorem dX10_readFact_138 : decode cX10_readFact 138 = .ok (.getfield 175, 3) := by decide +kernel
theorem dX10_readFact_141 : decode cX10_readFact 141 = .ok (.ifCond .eq 4, 3) := by decide +kernel
theorem dX10_readFact_144 : decode cX10_readFact 144 = .ok (.return_, 1) := by decide +kernel
theorem dX10_readFact_145 : decode cX10_readFact 145 = .ok (.aload_n 0, 1) := by decide +kernel
theorem dX10_readFact_146 : decode cX10_readFact 146 = .ok (.invokevirtual 184, 3) := by decide +kernel
theorem dX10_readFact_149 : decode cX10_readFact 149 = .ok (.iconst 0, 1) := by decide +kernel
theorem dX10_readFact_150 : decode cX10_readFact 150 = .ok (.istore_n 2, 1) := by decide +kernel
theorem dX10_readFact_151 : decode cX10_readFact 151 = .ok (.iload_n 1, 1) := by decide +kernel
theorem dX10_readFact_152 : decode cX10_readFact 152 = .ok (.bipush 29, 2) := by decide +kernel
theorem dX10_readFact_154 : decode cX10_readFact 154 = .ok (.if_icmp .ne 14, 3) := by decide +kernel
theorem dX10_readFact_157 : decode cX10_readFact 157 = .ok (.aload_n 0, 1) := by decide +kernel
theorem dX10_readFact_158 : decode cX10_readFact 158 = .ok (.iconst 1, 1) := by decide +kernel
theorem dX10_readFact_159 : decode cX10_readFact 159 = .ok (.bipush 61, 2) := by decide +kernel
theorem dX10_readFact_161 : decode cX10_readFact 161 = .ok (.invokevirtual 197, 3) := by decide +kernel
theorem dX10_readFact_164 : decode cX10_readFact 164 = .ok (.istore_n 2, 1) := by decide +kernel
theorem dX10_readFact_165 : decode cX10_readFact 165 = .ok (.goto 83, 3) := by decide +kernel
theorem dX10_readFact_168 : decode cX10_readFact 168 = .ok (.iload_n 1, 1) := by decide +kernel
theorem dX10_readFact_169 : decode cX10_readFact 169 = .ok (.i2l, 1) := by decide +kernel
theorem dX10_readFact_170 : decode cX10_readFact 170 = .ok (.ldc2_w 246, 3) := by decide +kernel
theorem dX10_readFact_173 : decode cX10_readFact 173 = .ok (.ldc2_w 248, 3) := by decide +kernel
theorem dX10_readFact_176 : decode cX10_readFact 176 = .ok (.invokestatic 193, 3) := by decide +kernel
theorem dX10_readFact_179 : decode cX10_readFact 179 = .ok (.ifCond .eq 14, 3) := by decide +kernel
theorem dX10_readFact_182 : decode cX10_readFact 182 = .ok (.aload_n 0, 1) := by decide +kernel
theorem dX10_readFact_183 : decode cX10_readFact 183 = .ok (.iconst 0, 1) := by decide +kernel
theorem dX10_readFact_184 : decode cX10_readFact 184 = .ok (.bipush 99, 2) := by decide +kernel
theorem dX10_readFact_186 : decode cX10_readFact 186 = .ok (.invokevirtual 197, 3) := by decide +kernel
theorem dX10_readFact_189 : decode cX10_readFact 189 = .ok (.istore_n 2, 1) := by decide +kernel
theorem dX10_readFact_190 : decode cX10_readFact 190 = .ok (.goto 58, 3) := by decide +kernel
theorem dX10_readFact_193 : decode cX10_readFact 193 = .ok (.iload_n 1, 1) := by decide +kernel
theorem dX10_readFact_194 : decode cX10_readFact 194 = .ok (.bipush 33, 2) := by decide +kernel
theorem dX10_readFact_196 : decode cX10_readFact 196 = .ok (.if_icmp .ne 14, 3) := by decide +kernel
theorem dX10_readFact_199 : decode cX10_readFact 199 = .ok (.aload_n 0, 1) := by decide +kernel
theorem dX10_readFact_200 : decode cX10_readFact 200 = .ok (.iconst 0, 1) := by decide +kernel
theorem dX10_readFact_201 : decode cX10_readFact 201 = .ok (.bipush 59, 2) := by decide +kernel
theorem dX10_readFact_203 : decode cX10_readFact 203 = .ok (.invokevirtual 197, 3) := by decide +kernel
theorem dX10_readFact_206 : decode cX10_readFact 206 = .ok (.istore_n 2, 1) := by decide +kernel
theorem dX10_readFact_207 : decode cX10_readFact 207 = .ok (.goto 41, 3) := by decide +kernel
theorem dX10_readFact_210 : decode cX10_readFact 210 = .ok (.iload_n 1, 1) := by decide +kernel
theorem dX10_readFact_211 : decode cX10_readFact 211 = .ok (.bipush 34, 2) := by decide +kernel
theorem dX10_readFact_213 : decode cX10_readFact 213 = .ok (.if_icmp .eq 9, 3) := by decide +kernel
theorem dX10_readFact_216 : decode cX10_readFact 216 = .ok (.iload_n 1, 1) := by decide +kernel
theorem dX10_readFact_217 : decode cX10_readFact 217 = .ok (.bipush 35, 2) := by decide +kernel
theorem dX10_readFact_219 : decode cX10_readFact 219 = .ok (.if_icmp .ne 14, 3) := by decide +kernel
theorem dX10_readFact_222 : decode cX10_readFact 222 = .ok (.aload_n 0, 1) := by decide +kernel
theorem dX10_readFact_223 : decode cX10_readFact 223 = .ok (.iconst 1, 1) := by decide +kernel
theorem dX10_readFact_224 : decode cX10_readFact 224 = .ok (.bipush 60, 2) := by decide +kernel
theorem dX10_readFact_226 : decode cX10_readFact 226 = .ok (.invokevirtual 197, 3) := by decide +kernel
theorem dX10_readFact_229 : decode cX10_readFact 229 = .ok (.istore_n 2, 1) := by decide +kernel
theorem dX10_readFact_230 : decode cX10_readFact 230 = .ok (.goto 18, 3) := by decide +kernel
theorem dX10_readFact_233 : decode cX10_readFact 233 = .ok (.iload_n 1, 1) := by decide +kernel
theorem dX10_readFact_234 : decode cX10_readFact 234 = .ok (.bipush 36, 2) := by decide +kernel
theorem dX10_readFact_236 : decode cX10_readFact 236 = .ok (.if_icmp .ne 12, 3) := by decide +kernel
theorem dX10_readFact_239 : decode cX10_readFact 239 = .ok (.aload_n 0, 1) := by decide +kernel
theorem dX10_readFact_240 : decode cX10_readFact 240 = .ok (.iconst 0, 1) := by decide +kernel
theorem dX10_readFact_241 : decode cX10_readFact 241 = .ok (.sipush 999, 3) := by decide +kernel
theorem dX10_readFact_244 : decode cX10_readFact 244 = .ok (.invokevirtual 197, 3) := by decide +kernel
theorem dX10_readFact_247 : decode cX10_readFact 247 = .ok (.istore_n 2, 1) := by decide +kernel
theorem dX10_readFact_248 : decode cX10_readFact 248 = .ok (.aload_n 0, 1) := by decide +kernel
theorem dX10_readFact_249 : decode cX10_readFact 249 = .ok (.getfield 175, 3) := by decide +kernel
theorem dX10_readFact_252 : decode cX10_readFact 252 = .ok (.ifCond .ne 9, 3) := by decide +kernel
theorem dX10_readFact_255 : decode cX10_readFact 255 = .ok (.aload_n 0, 1) := by decide +kernel
theorem dX10_readFact_256 : decode cX10_readFact 256 = .ok (.iload_n 1, 1) := by decide +kernel
theorem dX10_readFact_257 : decode cX10_readFact 257 = .ok (.iload_n 2, 1) := by decide +kernel
theorem dX10_readFact_258 : decode cX10_readFact 258 = .ok (.invokevirtual 230, 3) := by decide +kernel
theorem dX10_readFact_261 : decode cX10_readFact 261 = .ok (.return_, 1) := by decide +kernel
theorem dX10_readLook_0 : decode cX10_readLook 0 = .ok (.aload_n 0, 1) := by decide +kernel
theorem dX10_readLook_1 : decode cX10_readLook 1 = .ok (.bipush 22, 2) := by decide +kernel
theorem dX10_readLook_3 : decode cX10_readLook 3 = .ok (.invokevirtual 181, 3) := by decide +kernel
theorem dX10_readLook_6 : decode cX10_readLook 6 = .ok (.ifCond .ne 11, 3) := by decide +kernel
theorem dX10_readLook_9 : decode cX10_readLook 9 = .ok (.aload_n 0, 1) := by decide +kernel
theorem dX10_readLook_10 : decode cX10_readLook 10 = .ok (.iconst 2, 1) := by decide +kernel
theorem dX10_readLook_11 : decode cX10_readLook 11 = .ok (.invokevirtual 190, 3) := by decide +kernel
theorem dX10_readLook_14 : decode cX10_readLook 14 = .ok (.goto 17, 3) := by decide +kernel
theorem dX10_readLook_17 : decode cX10_readLook 17 = .ok (.aload_n 0, 1) := by decide +kernel
theorem dX10_readLook_18 : decode cX10_readLook 18 = .ok (.getfield 204, 3) := by decide +kernel
theorem dX10_readLook_21 : decode cX10_readLook 21 = .ok (.bipush 8, 2) := by decide +kernel
theorem dX10_readLook_23 : decode cX10_readLook 23 = .ok (.if_icmp .ne 8, 3) := by decide +kernel
theorem dX10_readLook_26 : decode cX10_readLook 26 = .ok (.aload_n 0, 1) := by decide +kernel
theorem dX10_readLook_27 : decode cX10_readLook 27 = .ok (.iconst 4, 1) := by decide +kernel
theorem dX10_readLook_28 : decode cX10_readLook 28 = .ok (.invokevirtual 190, 3) := by decide +kernel
theorem dX10_readLook_31 : decode cX10_readLook 31 = .ok (.aload_n 0, 1) := by decide +kernel
theorem dX10_readLook_32 : decode cX10_readLook 32 = .ok (.getfield 175, 3) := by decide +kernel
theorem dX10_readLook_35 : decode cX10_readLook 35 = .ok (.ifCond .eq 4, 3) := by decide +kernel
theorem dX10_readLook_38 : decode cX10_readLook 38 = .ok (.return_, 1) := by decide +kernel
theorem dX10_readLook_39 : decode cX10_readLook 39 = .ok (.aload_n 0, 1) := by decide +kernel
theorem dX10_readLook_40 : decode cX10_readLook 40 = .ok (.invokevirtual 184, 3) := by decide +kernel
theorem dX10_readLook_43 : decode cX10_readLook 43 = .ok (.aload_n 0, 1) := by decide +kernel
theorem dX10_readLook_44 : decode cX10_readLook 44 = .ok (.bipush 23, 2) := by decide +kernel
theorem dX10_readLook_46 : decode cX10_readLook 46 = .ok (.invokevirtual 201, 3) := by decide +kernel
theorem dX10_readLook_49 : decode cX10_readLook 49 = .ok (.aload_n 0, 1) := by decide +kernel
theorem dX10_readLook_50 : decode cX10_readLook 50 = .ok (.getfield 27, 3) := by decide +kernel
theorem dX10_readLook_53 : decode cX10_readLook 53 = .ok (.iconst 1, 1) := by decide +kernel
theorem dX10_readLook_54 : decode cX10_readLook 54 = .ok (.aload_n 0, 1) := by decide +kernel
theorem dX10_readLook_55 : decode cX10_readLook 55 = .ok (.getfield 204, 3) := by decide +kernel
theorem dX10_readLook_58 : decode cX10_readLook 58 = .ok (.iadd, 1) := by decide +kernel
theorem dX10_readLook_59 : decode cX10_readLook 59 = .ok (.aload_n 0, 1) := by decide +kernel
theorem dX10_readLook_60 : decode cX10_readLook 60 = .ok (.getfield 224, 3) := by decide +kernel
theorem dX10_readLook_63 : decode cX10_readLook 63 = .ok (.iastore, 1) := by decide +kernel
theorem dX10_readLook_64 : decode cX10_readLook 64 = .ok (.aload_n 0, 1) := by decide +kernel
theorem dX10_readLook_65 : decode cX10_readLook 65 = .ok (.invokevirtual 239, 3) := by decide +kernel
theorem dX10_readLook_68 : decode cX10_readLook 68 = .ok (.aload_n 0, 1) := by decide +kernel
theorem dX10_readLook_69 : decode cX10_readLook 69 = .ok (.getfield 27, 3) := by decide +kernel
theorem dX10_readLook_72 : decode cX10_readLook 72 = .ok (.bipush 9, 2) := by decide +kernel
theorem dX10_readLook_74 : decode cX10_readLook 74 = .ok (.aload_n 0, 1) := by decide +kernel
theorem dX10_readLook_75 : decode cX10_readLook 75 = .ok (.getfield 204, 3) := by decide +kernel
theorem dX10_readLook_78 : decode cX10_readLook 78 = .ok (.iadd, 1) := by decide +kernel
theorem dX10_readLook_79 : decode cX10_readLook 79 = .ok (.aload_n 0, 1) := by decide +kernel
theorem dX10_readLook_80 : decode cX10_readLook 80 = .ok (.getfield 224, 3) := by decide +kernel
theorem dX10_readLook_83 : decode cX10_readLook 83 = .ok (.iastore, 1) := by decide +kernel
theorem dX10_readLook_84 : decode cX10_readLook 84 = .ok (.return_, 1) := by decide +kernel
theorem dX10_text_0 : decode cX10_text 0 = .ok (.aload_n 0, 1) := by decide +kernel
theorem dX10_text_1 : decode cX10_text 1 = .ok (.iconst 0, 1) := by decide +kernel
theorem dX10_text_2 : decode cX10_text 2 = .ok (.putfield 1, 3) := by decide +kernel
theorem dX10_text_5 : decode cX10_text 5 = .ok (.iload_n 1, 1) := by decide +kernel
theorem dX10_text_6 : decode cX10_text 6 = .ok (.i2l, 1) := by decide +kernel
theorem dX10_text_7 : decode cX10_text 7 = .ok (.lconst 0, 1) := by decide +kernel
theorem dX10_text_8 : decode cX10_text 8 = .ok (.ldc2_w 250, 3) := by decide +kernel
theorem dX10_text_11 : decode cX10_text 11 = .ok (.invokestatic 193, 3) := by decide +kernel
theorem dX10_text_14 : decode cX10_text 14 = .ok (.ifCond .eq 24, 3) := by decide +kernel
theorem dX10_text_17 : decode cX10_text 17 = .ok (.iload_n 2, 1) := by decide +kernel
theorem dX10_text_18 : decode cX10_text 18 = .ok (.i2l, 1) := by decide +kernel
theorem dX10_text_19 : decode cX10_text 19 = .ok (.lconst 0, 1) := by decide +kernel
theorem dX10_text_20 : decode cX10_text 20 = .ok (.iload_n 1, 1) := by decide +kernel
theorem dX10_text_21 : decode cX10_text 21 = .ok (.iconst 1, 1) := by decide +kernel
theorem dX10_text_22 : decode cX10_text 22 = .ok (.if_icmp .le 7, 3) := by decide +kernel
theorem dX10_text_25 : decode cX10_text 25 = .ok (.lconst 0, 1) := by decide +kernel
theorem dX10_text_26 : decode cX10_text 26 = .ok (.goto 6, 3) := by decide +kernel
theorem dX10_text_29 : decode cX10_text 29 = .ok (.ldc2_w 250, 3) := by decide +kernel
theorem dX10_text_32 : decode cX10_text 32 = .ok (.invokestatic 193, 3) := by decide +kernel
theorem dX10_text_35 : decode cX10_text 35 = .ok (.ifCond .ne 10, 3) := by decide +kernel
theorem dX10_text_38 : decode cX10_text 38 = .ok (.aload_n 0, 1) := by decide +kernel
theorem dX10_text_39 : decode cX10_text 39 = .ok (.bipush (-2), 2) := by decide +kernel
theorem dX10_text_41 : decode cX10_text 41 = .ok (.invokevirtual 131, 3) := by decide +kernel
theorem dX10_text_44 : decode cX10_text 44 = .ok (.ireturn, 1) := by decide +kernel
theorem dX10_text_45 : decode cX10_text 45 = .ok (.iload_n 3, 1) := by decide +kernel
theorem dX10_text_46 : decode cX10_text 46 = .ok (.i2l, 1) := by decide +kernel
theorem dX10_text_47 : decode cX10_text 47 = .ok (.lconst 0, 1) := by decide +kernel
theorem dX10_text_48 : decode cX10_text 48 = .ok (.aload_n 0, 1) := by decide +kernel
theorem dX10_text_49 : decode cX10_text 49 = .ok (.getfield 128, 3) := by decide +kernel
theorem dX10_text_52 : decode cX10_text 52 = .ok (.i2l, 1) := by decide +kernel
theorem dX10_text_53 : decode cX10_text 53 = .ok (.invokestatic 193, 3) := by decide +kernel
theorem dX10_text_56 : decode cX10_text 56 = .ok (.ifCond .ne 10, 3) := by decide +kernel
theorem dX10_text_59 : decode cX10_text 59 = .ok (.aload_n 0, 1) := by decide +kernel
theorem dX10_text_60 : decode cX10_text 60 = .ok (.bipush (-3), 2) := by decide +kernel
theorem dX10_text_62 : decode cX10_text 62 = .ok (.invokevirtual 131, 3) := by decide +kernel
theorem dX10_text_65 : decode cX10_text 65 = .ok (.ireturn, 1) := by decide +kernel
theorem dX10_text_66 : decode cX10_text 66 = .ok (.aload_n 0, 1) := by decide +kernel
theorem dX10_text_67 : decode cX10_text 67 = .ok (.iload_n 3, 1) := by decide +kernel
theorem dX10_text_68 : decode cX10_text 68 = .ok (.putfield 135, 3) := by decide +kernel
theorem dX10_text_71 : decode cX10_text 71 = .ok (.aload_n 0, 1) := by decide +kernel
theorem dX10_text_72 : decode cX10_text 72 = .ok (.iconst 0, 1) := by decide +kernel
theorem dX10_text_73 : decode cX10_text 73 = .ok (.putfield 128, 3) := by decide +kernel
theorem dX10_text_76 : decode cX10_text 76 = .ok (.aload_n 0, 1) := by decide +kernel
theorem dX10_text_77 : decode cX10_text 77 = .ok (.iconst 0, 1) := by decide +kernel
theorem dX10_text_78 : decode cX10_text 78 = .ok (.putfield 153, 3) := by decide +kernel
theorem dX10_text_81 : decode cX10_text 81 = .ok (.aload_n 0, 1) := by decide +kernel
theorem dX10_text_82 : decode cX10_text 82 = .ok (.iconst 0, 1) := by decide +kernel
theorem dX10_text_83 : decode cX10_text 83 = .ok (.putfield 175, 3) := by decide +kernel
theorem dX10_text_86 : decode cX10_text 86 = .ok (.aload_n 0, 1) := by decide +kernel
theorem dX10_text_87 : decode cX10_text 87 = .ok (.iconst 0, 1) := by decide +kernel
theorem dX10_text_88 : decode cX10_text 88 = .ok (.putfield 204, 3) := by decide +kernel
theorem dX10_text_91 : decode cX10_text 91 = .ok (.aload_n 0, 1) := by decide +kernel
theorem dX10_text_92 : decode cX10_text 92 = .ok (.iconst 0, 1) := by decide +kernel
theorem dX10_text_93 : decode cX10_text 93 = .ok (.putfield 236, 3) := by decide +kernel
theorem dX10_text_96 : decode cX10_text 96 = .ok (.aload_n 0, 1) := by decide +kernel
theorem dX10_text_97 : decode cX10_text 97 = .ok (.iconst 0, 1) := by decide +kernel
theorem dX10_text_98 : decode cX10_text 98 = .ok (.putfield 224, 3) := by decide +kernel
theorem dX10_text_101 : decode cX10_text 101 = .ok (.iconst 0, 1) := by decide +kernel
theorem dX10_text_102 : decode cX10_text 102 = .ok (.istore 4, 2) := by decide +kernel
theorem dX10_text_104 : decode cX10_text 104 = .ok (.iload 4, 2) := by decide +kernel
theorem dX10_text_106 : decode cX10_text 106 = .ok (.sipush 417, 3) := by decide +kernel
theorem dX10_text_109 : decode cX10_text 109 = .ok (.if_icmp .ge 17, 3) := by decide +kernel
theorem dX10_text_112 : decode cX10_text 112 = .ok (.aload_n 0, 1) := by decide +kernel
theorem dX10_text_113 : decode cX10_text 113 = .ok (.getfield 27, 3) := by decide +kernel
theorem dX10_text_116 : decode cX10_text 116 = .ok (.iload 4, 2) := by decide +kernel
theorem dX10_text_118 : decode cX10_text 118 = .ok (.iconst 0, 1) := by decide +kernel
theorem dX10_text_119 : decode cX10_text 119 = .ok (.iastore, 1) := by decide +kernel
theorem dX10_text_120 : decode cX10_text 120 = .ok (.iinc 4 1, 3) := by decide +kernel
theorem dX10_text_123 : decode cX10_text 123 = .ok (.goto (-19), 3) := by decide +kernel
theorem dX10_text_126 : decode cX10_text 126 = .ok (.iload_n 1, 1) := by decide +kernel
theorem dX10_text_127 : decode cX10_text 127 = .ok (.iconst 2, 1) := by decide +kernel
theorem dX10_text_128 : decode cX10_text 128 = .ok (.if_icmp .ne 8, 3) := by decide +kernel
theorem dX10_text_131 : decode cX10_text 131 = .ok (.aload_n 0, 1) := by decide +kernel
theorem dX10_text_132 : decode cX10_text 132 = .ok (.iconst 1, 1) := by decide +kernel
theorem dX10_text_133 : decode cX10_text 133 = .ok (.invokevirtual 124, 3) := by decide +kernel
theorem dX10_text_136 : decode cX10_text 136 = .ok (.aload_n 0, 1) := by decide +kernel
theorem dX10_text_137 : decode cX10_text 137 = .ok (.invokevirtual 184, 3) := by decide +kernel
theorem dX10_text_140 : decode cX10_text 140 = .ok (.aload_n 0, 1) := by decide +kernel
theorem dX10_text_141 : decode cX10_text 141 = .ok (.getfield 175, 3) := by decide +kernel
theorem dX10_text_144 : decode cX10_text 144 = .ok (.ifCond .ne 81, 3) := by decide +kernel
theorem dX10_text_147 : decode cX10_text 147 = .ok (.aload_n 0, 1) := by decide +kernel
theorem dX10_text_148 : decode cX10_text 148 = .ok (.getfield 159, 3) := by decide +kernel
theorem dX10_text_151 : decode cX10_text 151 = .ok (.bipush 42, 2) := by decide +kernel
theorem dX10_text_153 : decode cX10_text 153 = .ok (.if_icmp .ne 14, 3) := by decide +kernel
theorem dX10_text_156 : decode cX10_text 156 = .ok (.iload_n 1, 1) := by decide +kernel
theorem dX10_text_157 : decode cX10_text 157 = .ok (.ifCond .ne 68, 3) := by decide +kernel
theorem dX10_text_160 : decode cX10_text 160 = .ok (.aload_n 0, 1) := by decide +kernel
theorem dX10_text_161 : decode cX10_text 161 = .ok (.getfield 204, 3) := by decide +kernel
theorem dX10_text_164 : decode cX10_text 164 = .ok (.ifCond .ne 61, 3) := by decide +kernel
theorem dX10_text_167 : decode cX10_text 167 = .ok (.iload_n 1, 1) := by decide +kernel
theorem dX10_text_168 : decode cX10_text 168 = .ok (.ifCond .ne 10, 3) := by decide +kernel
theorem dX10_text_171 : decode cX10_text 171 = .ok (.aload_n 0, 1) := by decide +kernel
theorem dX10_text_172 : decode cX10_text 172 = .ok (.invokevirtual 252, 3) := by decide +kernel
theorem dX10_text_175 : decode cX10_text 175 = .ok (.goto 31, 3) := by decide +kernel
theorem dX10_text_178 : decode cX10_text 178 = .ok (.iload_n 1, 1) := by decide +kernel
theorem dX10_text_179 : decode cX10_text 179 = .ok (.iconst 1, 1) := by decide +kernel
theorem dX10_text_180 : decode cX10_text 180 = .ok (.if_icmp .ne 10, 3) := by decide +kernel
theorem dX10_text_183 : decode cX10_text 183 = .ok (.aload_n 0, 1) := by decide +kernel
theorem dX10_text_184 : decode cX10_text 184 = .ok (.invokevirtual 255, 3) := by decide +kernel
theorem dX10_text_187 : decode cX10_text 187 = .ok (.goto 19, 3) := by decide +kernel
theorem dX10_text_190 : decode cX10_text 190 = .ok (.iload_n 1, 1) := by decide +kernel
theorem dX10_text_191 : decode cX10_text 191 = .ok (.iconst 2, 1) := by decide +kernel
theorem dX10_text_192 : decode cX10_text 192 = .ok (.if_icmp .ne 10, 3) := by decide +kernel
theorem dX10_text_195 : decode cX10_text 195 = .ok (.aload_n 0, 1) := by decide +kernel
theorem dX10_text_196 : decode cX10_text 196 = .ok (.invokevirtual 258, 3) := by decide +kernel
theorem dX10_text_199 : decode cX10_text 199 = .ok (.goto 7, 3) := by decide +kernel
theorem dX10_text_202 : decode cX10_text 202 = .ok (.aload_n 0, 1) := by decide +kernel
theorem dX10_text_203 : decode cX10_text 203 = .ok (.invokevirtual 261, 3) := by decide +kernel
theorem dX10_text_206 : decode cX10_text 206 = .ok (.aload_n 0, 1) := by decide +kernel
theorem dX10_text_207 : decode cX10_text 207 = .ok (.bipush 39, 2) := by decide +kernel
theorem dX10_text_209 : decode cX10_text 209 = .ok (.invokevirtual 201, 3) := by decide +kernel
theorem dX10_text_212 : decode cX10_text 212 = .ok (.aload_n 0, 1) := by decide +kernel
theorem dX10_text_213 : decode cX10_text 213 = .ok (.dup, 1) := by decide +kernel
theorem dX10_text_214 : decode cX10_text 214 = .ok (.getfield 204, 3) := by decide +kernel
theorem dX10_text_217 : decode cX10_text 217 = .ok (.iconst 1, 1) := by decide +kernel
theorem dX10_text_218 : decode cX10_text 218 = .ok (.iadd, 1) := by decide +kernel
theorem dX10_text_219 : decode cX10_text 219 = .ok (.putfield 204, 3) := by decide +kernel
theorem dX10_text_222 : decode cX10_text 222 = .ok (.goto (-82), 3) := by decide +kernel
theorem dX10_text_225 : decode cX10_text 225 = .ok (.aload_n 0, 1) := by decide +kernel
theorem dX10_text_226 : decode cX10_text 226 = .ok (.aload_n 0, 1) := by decide +kernel
theorem dX10_text_227 : decode cX10_text 227 = .ok (.getfield 175, 3) := by decide +kernel
theorem dX10_text_230 : decode cX10_text 230 = .ok (.putfield 264, 3) := by decide +kernel
theorem dX10_text_233 : decode cX10_text 233 = .ok (.aload_n 0, 1) := by decide +kernel
theorem dX10_text_234 : decode cX10_text 234 = .ok (.aload_n 0, 1) := by decide +kernel
theorem dX10_text_235 : decode cX10_text 235 = .ok (.getfield 175, 3) := by decide +kernel
theorem dX10_text_238 : decode cX10_text 238 = .ok (.ifCond .ne 7, 3) := by decide +kernel
theorem dX10_text_241 : decode cX10_text 241 = .ok (.iconst (-1), 1) := by decide +kernel
theorem dX10_text_242 : decode cX10_text 242 = .ok (.goto 7, 3) := by decide +kernel
theorem dX10_text_245 : decode cX10_text 245 = .ok (.aload_n 0, 1) := by decide +kernel
theorem dX10_text_246 : decode cX10_text 246 = .ok (.getfield 178, 3) := by decide +kernel
theorem dX10_text_249 : decode cX10_text 249 = .ok (.putfield 30, 3) := by decide +kernel
theorem dX10_text_252 : decode cX10_text 252 = .ok (.aload_n 0, 1) := by decide +kernel
theorem dX10_text_253 : decode cX10_text 253 = .ok (.getfield 175, 3) := by decide +kernel
theorem dX10_text_256 : decode cX10_text 256 = .ok (.ifCond .eq 21, 3) := by decide +kernel
theorem dX10_text_259 : decode cX10_text 259 = .ok (.aload_n 0, 1) := by decide +kernel
theorem dX10_text_260 : decode cX10_text 260 = .ok (.getfield 7, 3) := by decide +kernel
theorem dX10_text_263 : decode cX10_text 263 = .ok (.iconst 1, 1) := by decide +kernel
theorem dX10_text_264 : decode cX10_text 264 = .ok (.dup2, 1) := by decide +kernel
theorem dX10_text_265 : decode cX10_text 265 = .ok (.iaload, 1) := by decide +kernel
theorem dX10_text_266 : decode cX10_text 266 = .ok (.iconst 1, 1) := by decide +kernel
theorem dX10_text_267 : decode cX10_text 267 = .ok (.iadd, 1) := by decide +kernel
theorem dX10_text_268 : decode cX10_text 268 = .ok (.iastore, 1) := by decide +kernel
theorem dX10_text_269 : decode cX10_text 269 = .ok (.bipush (-10), 2) := by decide +kernel
theorem dX10_text_271 : decode cX10_text 271 = .ok (.aload_n 0, 1) := by decide +kernel
theorem dX10_text_272 : decode cX10_text 272 = .ok (.getfield 175, 3) := by decide +kernel
theorem dX10_text_275 : decode cX10_text 275 = .ok (.isub, 1) := by decide +kernel
theorem dX10_text_276 : decode cX10_text 276 = .ok (.ireturn, 1) := by decide +kernel
theorem dX10_text_277 : decode cX10_text 277 = .ok (.iload_n 1, 1) := by decide +kernel
theorem dX10_text_278 : decode cX10_text 278 = .ok (.iconst 1, 1) := by decide +kernel
theorem dX10_text_279 : decode cX10_text 279 = .ok (.if_icmp .ne 13, 3) := by decide +kernel
theorem dX10_text_282 : decode cX10_text 282 = .ok (.aload_n 0, 1) := by decide +kernel
theorem dX10_text_283 : decode cX10_text 283 = .ok (.getfield 27, 3) := by decide +kernel
theorem dX10_text_286 : decode cX10_text 286 = .ok (.iconst 0, 1) := by decide +kernel
theorem dX10_text_287 : decode cX10_text 287 = .ok (.aload_n 0, 1) := by decide +kernel
theorem dX10_text_288 : decode cX10_text 288 = .ok (.getfield 204, 3) := by decide +kernel
theorem dX10_text_291 : decode cX10_text 291 = .ok (.iastore, 1) := by decide +kernel
theorem dX10_text_292 : decode cX10_text 292 = .ok (.iload_n 1, 1) := by decide +kernel
theorem dX10_text_293 : decode cX10_text 293 = .ok (.iconst 2, 1) := by decide +kernel
theorem dX10_text_294 : decode cX10_text 294 = .ok (.if_icmp .ne 14, 3) := by decide +kernel
theorem dX10_text_297 : decode cX10_text 297 = .ok (.aload_n 0, 1) := by decide +kernel
theorem dX10_text_298 : decode cX10_text 298 = .ok (.getfield 27, 3) := by decide +kernel
theorem dX10_text_301 : decode cX10_text 301 = .ok (.bipush 8, 2) := by decide +kernel
theorem dX10_text_303 : decode cX10_text 303 = .ok (.aload_n 0, 1) := by decide +kernel
theorem dX10_text_304 : decode cX10_text 304 = .ok (.getfield 204, 3) := by decide +kernel
theorem dX10_text_307 : decode cX10_text 307 = .ok (.iastore, 1) := by decide +kernel
theorem dX10_text_308 : decode cX10_text 308 = .ok (.iload_n 1, 1) := by decide +kernel
theorem dX10_text_309 : decode cX10_text 309 = .ok (.iconst 3, 1) := by decide +kernel
theorem dX10_text_310 : decode cX10_text 310 = .ok (.if_icmp .ne 13, 3) := by decide +kernel
theorem dX10_text_313 : decode cX10_text 313 = .ok (.aload_n 0, 1) := by decide +kernel
theorem dX10_text_314 : decode cX10_text 314 = .ok (.getfield 27, 3) := by decide +kernel
theorem dX10_text_317 : decode cX10_text 317 = .ok (.iconst 0, 1) := by decide +kernel
theorem dX10_text_318 : decode cX10_text 318 = .ok (.aload_n 0, 1) := by decide +kernel
theorem dX10_text_319 : decode cX10_text 319 = .ok (.getfield 204, 3) := by decide +kernel
theorem dX10_text_322 : decode cX10_text 322 = .ok (.iastore, 1) := by decide +kernel
theorem dX10_text_323 : decode cX10_text 323 = .ok (.iload_n 1, 1) := by decide +kernel
theorem dX10_text_324 : decode cX10_text 324 = .ok (.ifCond .ne 11, 3) := by decide +kernel
theorem dX10_text_327 : decode cX10_text 327 = .ok (.sipush 242, 3) := by decide +kernel
theorem dX10_text_330 : decode cX10_text 330 = .ok (.iload_n 2, 1) := by decide +kernel
theorem dX10_text_331 : decode cX10_text 331 = .ok (.imul, 1) := by decide +kernel
theorem dX10_text_332 : decode cX10_text 332 = .ok (.goto 33, 3) := by decide +kernel
theorem dX10_text_335 : decode cX10_text 335 = .ok (.iload_n 1, 1) := by decide +kernel
theorem dX10_text_336 : decode cX10_text 336 = .ok (.iconst 1, 1) := by decide +kernel
theorem dX10_text_337 : decode cX10_text 337 = .ok (.if_icmp .ne 14, 3) := by decide +kernel
theorem dX10_text_340 : decode cX10_text 340 = .ok (.sipush 968, 3) := by decide +kernel
theorem dX10_text_343 : decode cX10_text 343 = .ok (.bipush 37, 2) := by decide +kernel
theorem dX10_text_345 : decode cX10_text 345 = .ok (.iload_n 2, 1) := by decide +kernel
theorem dX10_text_346 : decode cX10_text 346 = .ok (.imul, 1) := by decide +kernel
theorem dX10_text_347 : decode cX10_text 347 = .ok (.iadd, 1) := by decide +kernel
theorem dX10_text_348 : decode cX10_text 348 = .ok (.goto 17, 3) := by decide +kernel
theorem dX10_text_351 : decode cX10_text 351 = .ok (.iload_n 1, 1) := by decide +kernel
theorem dX10_text_352 : decode cX10_text 352 = .ok (.iconst 2, 1) := by decide +kernel
theorem dX10_text_353 : decode cX10_text 353 = .ok (.if_icmp .ne 9, 3) := by decide +kernel
theorem dX10_text_356 : decode cX10_text 356 = .ok (.sipush 1116, 3) := by decide +kernel
theorem dX10_text_359 : decode cX10_text 359 = .ok (.goto 6, 3) := by decide +kernel
theorem dX10_text_362 : decode cX10_text 362 = .ok (.sipush 2636, 3) := by decide +kernel
theorem dX10_text_365 : decode cX10_text 365 = .ok (.istore 4, 2) := by decide +kernel
theorem dX10_text_367 : decode cX10_text 367 = .ok (.iload_n 1, 1) := by decide +kernel
theorem dX10_text_368 : decode cX10_text 368 = .ok (.ifCond .ne 9, 3) := by decide +kernel
theorem dX10_text_371 : decode cX10_text 371 = .ok (.sipush 242, 3) := by decide +kernel
theorem dX10_text_374 : decode cX10_text 374 = .ok (.goto 26, 3) := by decide +kernel
theorem dX10_text_377 : decode cX10_text 377 = .ok (.iload_n 1, 1) := by decide +kernel
theorem dX10_text_378 : decode cX10_text 378 = .ok (.iconst 1, 1) := by decide +kernel
theorem dX10_text_379 : decode cX10_text 379 = .ok (.if_icmp .ne 8, 3) := by decide +kernel
theorem dX10_text_382 : decode cX10_text 382 = .ok (.bipush 37, 2) := by decide +kernel
theorem dX10_text_384 : decode cX10_text 384 = .ok (.goto 16, 3) := by decide +kernel
theorem dX10_text_387 : decode cX10_text 387 = .ok (.iload_n 1, 1) := by decide +kernel
theorem dX10_text_388 : decode cX10_text 388 = .ok (.iconst 2, 1) := by decide +kernel
theorem dX10_text_389 : decode cX10_text 389 = .ok (.if_icmp .ne 8, 3) := by decide +kernel
theorem dX10_text_392 : decode cX10_text 392 = .ok (.bipush 9, 2) := by decide +kernel
theorem dX10_text_394 : decode cX10_text 394 = .ok (.goto 6, 3) := by decide +kernel
theorem dX10_text_397 : decode cX10_text 397 = .ok (.sipush 417, 3) := by decide +kernel
theorem dX10_text_400 : decode cX10_text 400 = .ok (.istore 5, 2) := by decide +kernel
theorem dX10_text_402 : decode cX10_text 402 = .ok (.iconst 0, 1) := by decide +kernel
theorem dX10_text_403 : decode cX10_text 403 = .ok (.istore 6, 2) := by decide +kernel
theorem dX10_text_405 : decode cX10_text 405 = .ok (.iload 6, 2) := by decide +kernel
theorem dX10_text_407 : decode cX10_text 407 = .ok (.iload 5, 2) := by decide +kernel
theorem dX10_text_409 : decode cX10_text 409 = .ok (.if_icmp .ge 26, 3) := by decide +kernel
theorem dX10_text_412 : decode cX10_text 412 = .ok (.aload_n 0, 1) := by decide +kernel
theorem dX10_text_413 : decode cX10_text 413 = .ok (.getfield 17, 3) := by decide +kernel
theorem dX10_text_416 : decode cX10_text 416 = .ok (.iload 4, 2) := by decide +kernel
theorem dX10_text_418 : decode cX10_text 418 = .ok (.iload 6, 2) := by decide +kernel
theorem dX10_text_420 : decode cX10_text 420 = .ok (.iadd, 1) := by decide +kernel
theorem dX10_text_421 : decode cX10_text 421 = .ok (.aload_n 0, 1) := by decide +kernel
theorem dX10_text_422 : decode cX10_text 422 = .ok (.getfield 27, 3) := by decide +kernel
theorem dX10_text_425 : decode cX10_text 425 = .ok (.iload 6, 2) := by decide +kernel
theorem dX10_text_427 : decode cX10_text 427 = .ok (.iaload, 1) := by decide +kernel
theorem dX10_text_428 : decode cX10_text 428 = .ok (.iastore, 1) := by decide +kernel
theorem dX10_text_429 : decode cX10_text 429 = .ok (.iinc 6 1, 3) := by decide +kernel
theorem dX10_text_432 : decode cX10_text 432 = .ok (.goto (-27), 3) := by decide +kernel
theorem dX10_text_435 : decode cX10_text 435 = .ok (.aload_n 0, 1) := by decide +kernel
theorem dX10_text_436 : decode cX10_text 436 = .ok (.getfield 204, 3) := by decide +kernel
theorem dX10_text_439 : decode cX10_text 439 = .ok (.ireturn, 1) := by decide +kernel
theorem dX10_fault_0 : decode cX10_fault 0 = .ok (.aload_n 0, 1) := by decide +kernel
theorem dX10_fault_1 : decode cX10_fault 1 = .ok (.iconst 0, 1) := by decide +kernel
theorem dX10_fault_2 : decode cX10_fault 2 = .ok (.putfield 1, 3) := by decide +kernel
theorem dX10_fault_5 : decode cX10_fault 5 = .ok (.iload_n 1, 1) := by decide +kernel
theorem dX10_fault_6 : decode cX10_fault 6 = .ok (.ifCond .ne 10, 3) := by decide +kernel
theorem dX10_fault_9 : decode cX10_fault 9 = .ok (.aload_n 0, 1) := by decide +kernel
theorem dX10_fault_10 : decode cX10_fault 10 = .ok (.getfield 264, 3) := by decide +kernel
theorem dX10_fault_13 : decode cX10_fault 13 = .ok (.goto 16, 3) := by decide +kernel
theorem dX10_fault_16 : decode cX10_fault 16 = .ok (.iload_n 1, 1) := by decide +kernel
theorem dX10_fault_17 : decode cX10_fault 17 = .ok (.iconst 1, 1) := by decide +kernel
theorem dX10_fault_18 : decode cX10_fault 18 = .ok (.if_icmp .ne 10, 3) := by decide +kernel
theorem dX10_fault_21 : decode cX10_fault 21 = .ok (.aload_n 0, 1) := by decide +kernel
theorem dX10_fault_22 : decode cX10_fault 22 = .ok (.getfield 30, 3) := by decide +kernel
theorem dX10_fault_25 : decode cX10_fault 25 = .ok (.goto 4, 3) := by decide +kernel
theorem dX10_fault_28 : decode cX10_fault 28 = .ok (.iconst (-1), 1) := by decide +kernel
theorem dX10_fault_29 : decode cX10_fault 29 = .ok (.ireturn, 1) := by decide +kernel
theorem dX10_isRod_0 : decode cX10_isRod 0 = .ok (.iload_n 1, 1) := by decide +kernel
theorem dX10_isRod_1 : decode cX10_isRod 1 = .ok (.i2l, 1) := by decide +kernel
theorem dX10_isRod_2 : decode cX10_isRod 2 = .ok (.lconst 0, 1) := by decide +kernel
theorem dX10_isRod_3 : decode cX10_isRod 3 = .ok (.ldc2_w 250, 3) := by decide +kernel
theorem dX10_isRod_6 : decode cX10_isRod 6 = .ok (.invokestatic 193, 3) := by decide +kernel
theorem dX10_isRod_9 : decode cX10_isRod 9 = .ok (.ifCond .eq 22, 3) := by decide +kernel
theorem dX10_isRod_12 : decode cX10_isRod 12 = .ok (.aload_n 0, 1) := by decide +kernel
theorem dX10_isRod_13 : decode cX10_isRod 13 = .ok (.getfield 17, 3) := by decide +kernel
theorem dX10_isRod_16 : decode cX10_isRod 16 = .ok (.sipush 242, 3) := by decide +kernel
theorem dX10_isRod_19 : decode cX10_isRod 19 = .ok (.iload_n 1, 1) := by decide +kernel
theorem dX10_isRod_20 : decode cX10_isRod 20 = .ok (.imul, 1) := by decide +kernel
theorem dX10_isRod_21 : decode cX10_isRod 21 = .ok (.iconst 0, 1) := by decide +kernel
theorem dX10_isRod_22 : decode cX10_isRod 22 = .ok (.iadd, 1) := by decide +kernel
theorem dX10_isRod_23 : decode cX10_isRod 23 = .ok (.iaload, 1) := by decide +kernel
theorem dX10_isRod_24 : decode cX10_isRod 24 = .ok (.ifCond .le 7, 3) := by decide +kernel
theorem dX10_isRod_27 : decode cX10_isRod 27 = .ok (.iconst 1, 1) := by decide +kernel
theorem dX10_isRod_28 : decode cX10_isRod 28 = .ok (.goto 4, 3) := by decide +kernel
theorem dX10_isRod_31 : decode cX10_isRod 31 = .ok (.iconst 0, 1) := by decide +kernel
theorem dX10_isRod_32 : decode cX10_isRod 32 = .ok (.ireturn, 1) := by decide +kernel
theorem dX10_shapes_0 : decode cX10_shapes 0 = .ok (.iconst 0, 1) := by decide +kernel
theorem dX10_shapes_1 : decode cX10_shapes 1 = .ok (.istore_n 1, 1) := by decide +kernel
theorem dX10_shapes_2 : decode cX10_shapes 2 = .ok (.iload_n 1, 1) := by decide +kernel
theorem dX10_shapes_3 : decode cX10_shapes 3 = .ok (.aload_n 0, 1) := by decide +kernel
theorem dX10_shapes_4 : decode cX10_shapes 4 = .ok (.getfield 267, 3) := by decide +kernel
theorem dX10_shapes_7 : decode cX10_shapes 7 = .ok (.if_icmp .ge 43, 3) := by decide +kernel
theorem dX10_shapes_10 : decode cX10_shapes 10 = .ok (.aload_n 0, 1) := by decide +kernel
theorem dX10_shapes_11 : decode cX10_shapes 11 = .ok (.getfield 45, 3) := by decide +kernel
theorem dX10_shapes_14 : decode cX10_shapes 14 = .ok (.iload_n 1, 1) := by decide +kernel
theorem dX10_shapes_15 : decode cX10_shapes 15 = .ok (.iload_n 1, 1) := by decide +kernel
theorem dX10_shapes_16 : decode cX10_shapes 16 = .ok (.iconst 1, 1) := by decide +kernel
theorem dX10_shapes_17 : decode cX10_shapes 17 = .ok (.iadd, 1) := by decide +kernel
theorem dX10_shapes_18 : decode cX10_shapes 18 = .ok (.aload_n 0, 1) := by decide +kernel
theorem dX10_shapes_19 : decode cX10_shapes 19 = .ok (.getfield 267, 3) := by decide +kernel
theorem dX10_shapes_22 : decode cX10_shapes 22 = .ok (.iload_n 1, 1) := by decide +kernel
theorem dX10_shapes_23 : decode cX10_shapes 23 = .ok (.isub, 1) := by decide +kernel
theorem dX10_shapes_24 : decode cX10_shapes 24 = .ok (.imul, 1) := by decide +kernel
theorem dX10_shapes_25 : decode cX10_shapes 25 = .ok (.sipush 400, 3) := by decide +kernel
theorem dX10_shapes_28 : decode cX10_shapes 28 = .ok (.imul, 1) := by decide +kernel
theorem dX10_shapes_29 : decode cX10_shapes 29 = .ok (.aload_n 0, 1) := by decide +kernel
theorem dX10_shapes_30 : decode cX10_shapes 30 = .ok (.getfield 267, 3) := by decide +kernel
theorem dX10_shapes_33 : decode cX10_shapes 33 = .ok (.iconst 1, 1) := by decide +kernel
theorem dX10_shapes_34 : decode cX10_shapes 34 = .ok (.iadd, 1) := by decide +kernel
theorem dX10_shapes_35 : decode cX10_shapes 35 = .ok (.aload_n 0, 1) := by decide +kernel
theorem dX10_shapes_36 : decode cX10_shapes 36 = .ok (.getfield 267, 3) := by decide +kernel
theorem dX10_shapes_39 : decode cX10_shapes 39 = .ok (.iconst 1, 1) := by decide +kernel
theorem dX10_shapes_40 : decode cX10_shapes 40 = .ok (.iadd, 1) := by decide +kernel
theorem dX10_shapes_41 : decode cX10_shapes 41 = .ok (.imul, 1) := by decide +kernel
theorem dX10_shapes_42 : decode cX10_shapes 42 = .ok (.idiv, 1) := by decide +kernel
theorem dX10_shapes_43 : decode cX10_shapes 43 = .ok (.iastore, 1) := by decide +kernel
theorem dX10_shapes_44 : decode cX10_shapes 44 = .ok (.iinc 1 1, 3) := by decide +kernel
theorem dX10_shapes_47 : decode cX10_shapes 47 = .ok (.goto (-45), 3) := by decide +kernel
theorem dX10_shapes_50 : decode cX10_shapes 50 = .ok (.return_, 1) := by decide +kernel
theorem dX10_takes_0 : decode cX10_takes 0 = .ok (.sipush 242, 3) := by decide +kernel
theorem dX10_takes_3 : decode cX10_takes 3 = .ok (.iload_n 1, 1) := by decide +kernel
theorem dX10_takes_4 : decode cX10_takes 4 = .ok (.imul, 1) := by decide +kernel
theorem dX10_takes_5 : decode cX10_takes 5 = .ok (.istore_n 2, 1) := by decide +kernel
theorem dX10_takes_6 : decode cX10_takes 6 = .ok (.aload_n 0, 1) := by decide +kernel
theorem dX10_takes_7 : decode cX10_takes 7 = .ok (.aload_n 0, 1) := by decide +kernel
theorem dX10_takes_8 : decode cX10_takes 8 = .ok (.getfield 17, 3) := by decide +kernel
theorem dX10_takes_11 : decode cX10_takes 11 = .ok (.iload_n 2, 1) := by decide +kernel
theorem dX10_takes_12 : decode cX10_takes 12 = .ok (.iconst 0, 1) := by decide +kernel
theorem dX10_takes_13 : decode cX10_takes 13 = .ok (.iadd, 1) := by decide +kernel
theorem dX10_takes_14 : decode cX10_takes 14 = .ok (.iaload, 1) := by decide +kernel
theorem dX10_takes_15 : decode cX10_takes 15 = .ok (.putfield 267, 3) := by decide +kernel
theorem dX10_takes_18 : decode cX10_takes 18 = .ok (.aload_n 0, 1) := by decide +kernel
theorem dX10_takes_19 : decode cX10_takes 19 = .ok (.aload_n 0, 1) := by decide +kernel
theorem dX10_takes_20 : decode cX10_takes 20 = .ok (.getfield 17, 3) := by decide +kernel
theorem dX10_takes_23 : decode cX10_takes 23 = .ok (.iload_n 2, 1) := by decide +kernel
theorem dX10_takes_24 : decode cX10_takes 24 = .ok (.iconst 1, 1) := by decide +kernel
theorem dX10_takes_25 : decode cX10_takes 25 = .ok (.iadd, 1) := by decide +kernel
theorem dX10_takes_26 : decode cX10_takes 26 = .ok (.iaload, 1) := by decide +kernel
theorem dX10_takes_27 : decode cX10_takes 27 = .ok (.putfield 270, 3) := by decide +kernel
theorem dX10_takes_30 : decode cX10_takes 30 = .ok (.iconst 0, 1) := by decide +kernel
theorem dX10_takes_31 : decode cX10_takes 31 = .ok (.istore_n 3, 1) := by decide +kernel
theorem dX10_takes_32 : decode cX10_takes 32 = .ok (.iload_n 3, 1) := by decide +kernel
theorem dX10_takes_33 : decode cX10_takes 33 = .ok (.aload_n 0, 1) := by decide +kernel
theorem dX10_takes_34 : decode cX10_takes 34 = .ok (.getfield 267, 3) := by decide +kernel
theorem dX10_takes_37 : decode cX10_takes 37 = .ok (.if_icmp .ge 77, 3) := by decide +kernel
theorem dX10_takes_40 : decode cX10_takes 40 = .ok (.aload_n 0, 1) := by decide +kernel
theorem dX10_takes_41 : decode cX10_takes 41 = .ok (.getfield 33, 3) := by decide +kernel
theorem dX10_takes_44 : decode cX10_takes 44 = .ok (.iload_n 3, 1) := by decide +kernel
theorem dX10_takes_45 : decode cX10_takes 45 = .ok (.aload_n 0, 1) := by decide +kernel
theorem dX10_takes_46 : decode cX10_takes 46 = .ok (.getfield 17, 3) := by decide +kernel
theorem dX10_takes_49 : decode cX10_takes 49 = .ok (.iload_n 2, 1) := by decide +kernel
theorem dX10_takes_50 : decode cX10_takes 50 = .ok (.iconst 2, 1) := by decide +kernel
theorem dX10_takes_51 : decode cX10_takes 51 = .ok (.iadd, 1) := by decide +kernel
theorem dX10_takes_52 : decode cX10_takes 52 = .ok (.iload_n 3, 1) := by decide +kernel
theorem dX10_takes_53 : decode cX10_takes 53 = .ok (.iadd, 1) := by decide +kernel
theorem dX10_takes_54 : decode cX10_takes 54 = .ok (.iaload, 1) := by decide +kernel
theorem dX10_takes_55 : decode cX10_takes 55 = .ok (.iastore, 1) := by decide +kernel
theorem dX10_takes_56 : decode cX10_takes 56 = .ok (.aload_n 0, 1) := by decide +kernel
theorem dX10_takes_57 : decode cX10_takes 57 = .ok (.getfield 36, 3) := by decide +kernel
theorem dX10_takes_60 : decode cX10_takes 60 = .ok (.iload_n 3, 1) := by decide +kernel
theorem dX10_takes_61 : decode cX10_takes 61 = .ok (.aload_n 0, 1) := by decide +kernel
theorem dX10_takes_62 : decode cX10_takes 62 = .ok (.getfield 17, 3) := by decide +kernel
theorem dX10_takes_65 : decode cX10_takes 65 = .ok (.iload_n 2, 1) := by decide +kernel
theorem dX10_takes_66 : decode cX10_takes 66 = .ok (.bipush 62, 2) := by decide +kernel
theorem dX10_takes_68 : decode cX10_takes 68 = .ok (.iadd, 1) := by decide +kernel
theorem dX10_takes_69 : decode cX10_takes 69 = .ok (.iload_n 3, 1) := by decide +kernel
theorem dX10_takes_70 : decode cX10_takes 70 = .ok (.iadd, 1) := by decide +kernel
theorem dX10_takes_71 : decode cX10_takes 71 = .ok (.iaload, 1) := by decide +kernel
theorem dX10_takes_72 : decode cX10_takes 72 = .ok (.iastore, 1) := by decide +kernel
theorem dX10_takes_73 : decode cX10_takes 73 = .ok (.aload_n 0, 1) := by decide +kernel
theorem dX10_takes_74 : decode cX10_takes 74 = .ok (.getfield 39, 3) := by decide +kernel
theorem dX10_takes_77 : decode cX10_takes 77 = .ok (.iload_n 3, 1) := by decide +kernel
theorem dX10_takes_78 : decode cX10_takes 78 = .ok (.aload_n 0, 1) := by decide +kernel
theorem dX10_takes_79 : decode cX10_takes 79 = .ok (.getfield 17, 3) := by decide +kernel
theorem dX10_takes_82 : decode cX10_takes 82 = .ok (.iload_n 2, 1) := by decide +kernel
theorem dX10_takes_83 : decode cX10_takes 83 = .ok (.bipush 122, 2) := by decide +kernel
theorem dX10_takes_85 : decode cX10_takes 85 = .ok (.iadd, 1) := by decide +kernel
theorem dX10_takes_86 : decode cX10_takes 86 = .ok (.iload_n 3, 1) := by decide +kernel
theorem dX10_takes_87 : decode cX10_takes 87 = .ok (.iadd, 1) := by decide +kernel
theorem dX10_takes_88 : decode cX10_takes 88 = .ok (.iaload, 1) := by decide +kernel
theorem dX10_takes_89 : decode cX10_takes 89 = .ok (.iastore, 1) := by decide +kernel
theorem dX10_takes_90 : decode cX10_takes 90 = .ok (.aload_n 0, 1) := by decide +kernel
theorem dX10_takes_91 : decode cX10_takes 91 = .ok (.getfield 42, 3) := by decide +kernel
theorem dX10_takes_94 : decode cX10_takes 94 = .ok (.iload_n 3, 1) := by decide +kernel
theorem dX10_takes_95 : decode cX10_takes 95 = .ok (.aload_n 0, 1) := by decide +kernel
theorem dX10_takes_96 : decode cX10_takes 96 = .ok (.getfield 17, 3) := by decide +kernel
theorem dX10_takes_99 : decode cX10_takes 99 = .ok (.iload_n 2, 1) := by decide +kernel
theorem dX10_takes_100 : decode cX10_takes 100 = .ok (.sipush 182, 3) := by decide +kernel
theorem dX10_takes_103 : decode cX10_takes 103 = .ok (.iadd, 1) := by decide +kernel
theorem dX10_takes_104 : decode cX10_takes 104 = .ok (.iload_n 3, 1) := by decide +kernel
theorem dX10_takes_105 : decode cX10_takes 105 = .ok (.iadd, 1) := by decide +kernel
theorem dX10_takes_106 : decode cX10_takes 106 = .ok (.iaload, 1) := by decide +kernel
theorem dX10_takes_107 : decode cX10_takes 107 = .ok (.iastore, 1) := by decide +kernel
theorem dX10_takes_108 : decode cX10_takes 108 = .ok (.iinc 3 1, 3) := by decide +kernel
theorem dX10_takes_111 : decode cX10_takes 111 = .ok (.goto (-79), 3) := by decide +kernel
theorem dX10_takes_114 : decode cX10_takes 114 = .ok (.aload_n 0, 1) := by decide +kernel
theorem dX10_takes_115 : decode cX10_takes 115 = .ok (.invokevirtual 273, 3) := by decide +kernel
theorem dX10_takes_118 : decode cX10_takes 118 = .ok (.return_, 1) := by decide +kernel
theorem dX10_draws_0 : decode cX10_draws 0 = .ok (.iload_n 1, 1) := by decide +kernel
theorem dX10_draws_1 : decode cX10_draws 1 = .ok (.istore_n 2, 1) := by decide +kernel
theorem dX10_draws_2 : decode cX10_draws 2 = .ok (.iconst 0, 1) := by decide +kernel
theorem dX10_draws_3 : decode cX10_draws 3 = .ok (.istore_n 3, 1) := by decide +kernel
theorem dX10_draws_4 : decode cX10_draws 4 = .ok (.iload_n 3, 1) := by decide +kernel
theorem dX10_draws_5 : decode cX10_draws 5 = .ok (.aload_n 0, 1) := by decide +kernel
theorem dX10_draws_6 : decode cX10_draws 6 = .ok (.getfield 267, 3) := by decide +kernel
theorem dX10_draws_9 : decode cX10_draws 9 = .ok (.if_icmp .ge 81, 3) := by decide +kernel
theorem dX10_draws_12 : decode cX10_draws 12 = .ok (.aload_n 0, 1) := by decide +kernel
theorem dX10_draws_13 : decode cX10_draws 13 = .ok (.getfield 36, 3) := by decide +kernel
theorem dX10_draws_16 : decode cX10_draws 16 = .ok (.iload_n 3, 1) := by decide +kernel
theorem dX10_draws_17 : decode cX10_draws 17 = .ok (.iaload, 1) := by decide +kernel
theorem dX10_draws_18 : decode cX10_draws 18 = .ok (.bipush 100, 2) := by decide +kernel
theorem dX10_draws_20 : decode cX10_draws 20 = .ok (.aload_n 0, 1) := by decide +kernel
theorem dX10_draws_21 : decode cX10_draws 21 = .ok (.getfield 39, 3) := by decide +kernel
theorem dX10_draws_24 : decode cX10_draws 24 = .ok (.iload_n 3, 1) := by decide +kernel
theorem dX10_draws_25 : decode cX10_draws 25 = .ok (.iaload, 1) := by decide +kernel
theorem dX10_draws_26 : decode cX10_draws 26 = .ok (.isub, 1) := by decide +kernel
theorem dX10_draws_27 : decode cX10_draws 27 = .ok (.imul, 1) := by decide +kernel
theorem dX10_draws_28 : decode cX10_draws 28 = .ok (.bipush 100, 2) := by decide +kernel
theorem dX10_draws_30 : decode cX10_draws 30 = .ok (.idiv, 1) := by decide +kernel
theorem dX10_draws_31 : decode cX10_draws 31 = .ok (.istore 4, 2) := by decide +kernel
theorem dX10_draws_33 : decode cX10_draws 33 = .ok (.aload_n 0, 1) := by decide +kernel
theorem dX10_draws_34 : decode cX10_draws 34 = .ok (.getfield 270, 3) := by decide +kernel
theorem dX10_draws_37 : decode cX10_draws 37 = .ok (.ifCond .le 29, 3) := by decide +kernel
theorem dX10_draws_40 : decode cX10_draws 40 = .ok (.ldc_w 276, 3) := by decide +kernel
theorem dX10_draws_43 : decode cX10_draws 43 = .ok (.iload_n 2, 1) := by decide +kernel
theorem dX10_draws_44 : decode cX10_draws 44 = .ok (.imul, 1) := by decide +kernel
theorem dX10_draws_45 : decode cX10_draws 45 = .ok (.sipush 12345, 3) := by decide +kernel
theorem dX10_draws_48 : decode cX10_draws 48 = .ok (.iadd, 1) := by decide +kernel
theorem dX10_draws_49 : decode cX10_draws 49 = .ok (.istore_n 2, 1) := by decide +kernel
theorem dX10_draws_50 : decode cX10_draws 50 = .ok (.iload 4, 2) := by decide +kernel
theorem dX10_draws_52 : decode cX10_draws 52 = .ok (.iload_n 2, 1) := by decide +kernel
theorem dX10_draws_53 : decode cX10_draws 53 = .ok (.bipush 16, 2) := by decide +kernel
theorem dX10_draws_55 : decode cX10_draws 55 = .ok (.iushr, 1) := by decide +kernel
theorem dX10_draws_56 : decode cX10_draws 56 = .ok (.aload_n 0, 1) := by decide +kernel
theorem dX10_draws_57 : decode cX10_draws 57 = .ok (.getfield 270, 3) := by decide +kernel
theorem dX10_draws_60 : decode cX10_draws 60 = .ok (.iconst 1, 1) := by decide +kernel
theorem dX10_draws_61 : decode cX10_draws 61 = .ok (.iadd, 1) := by decide +kernel
theorem dX10_draws_62 : decode cX10_draws 62 = .ok (.irem, 1) := by decide +kernel
theorem dX10_draws_63 : decode cX10_draws 63 = .ok (.isub, 1) := by decide +kernel
theorem dX10_draws_64 : decode cX10_draws 64 = .ok (.istore 4, 2) := by decide +kernel
theorem dX10_draws_66 : decode cX10_draws 66 = .ok (.aload_n 0, 1) := by decide +kernel
theorem dX10_draws_67 : decode cX10_draws 67 = .ok (.getfield 48, 3) := by decide +kernel
theorem dX10_draws_70 : decode cX10_draws 70 = .ok (.iload_n 3, 1) := by decide +kernel
theorem dX10_draws_71 : decode cX10_draws 71 = .ok (.iload 4, 2) := by decide +kernel
theorem dX10_draws_73 : decode cX10_draws 73 = .ok (.iconst 1, 1) := by decide +kernel
theorem dX10_draws_74 : decode cX10_draws 74 = .ok (.if_icmp .ge 7, 3) := by decide +kernel
theorem dX10_draws_77 : decode cX10_draws 77 = .ok (.iconst 1, 1) := by decide +kernel
theorem dX10_draws_78 : decode cX10_draws 78 = .ok (.goto 5, 3) := by decide +kernel
theorem dX10_draws_81 : decode cX10_draws 81 = .ok (.iload 4, 2) := by decide +kernel
theorem dX10_draws_83 : decode cX10_draws 83 = .ok (.iastore, 1) := by decide +kernel
theorem dX10_draws_84 : decode cX10_draws 84 = .ok (.iinc 3 1, 3) := by decide +kernel
theorem dX10_draws_87 : decode cX10_draws 87 = .ok (.goto (-83), 3) := by decide +kernel
theorem dX10_draws_90 : decode cX10_draws 90 = .ok (.return_, 1) := by decide +kernel
theorem dX10_rod_0 : decode cX10_rod 0 = .ok (.aload_n 0, 1) := by decide +kernel
theorem dX10_rod_1 : decode cX10_rod 1 = .ok (.iconst 0, 1) := by decide +kernel
theorem dX10_rod_2 : decode cX10_rod 2 = .ok (.putfield 1, 3) := by decide +kernel
theorem dX10_rod_5 : decode cX10_rod 5 = .ok (.aload_n 0, 1) := by decide +kernel
theorem dX10_rod_6 : decode cX10_rod 6 = .ok (.iload_n 1, 1) := by decide +kernel
theorem dX10_rod_7 : decode cX10_rod 7 = .ok (.invokevirtual 277, 3) := by decide +kernel
theorem dX10_rod_10 : decode cX10_rod 10 = .ok (.ifCond .eq 13, 3) := by decide +kernel
theorem dX10_rod_13 : decode cX10_rod 13 = .ok (.iload_n 2, 1) := by decide +kernel
theorem dX10_rod_14 : decode cX10_rod 14 = .ok (.i2l, 1) := by decide +kernel
theorem dX10_rod_15 : decode cX10_rod 15 = .ok (.lconst 0, 1) := by decide +kernel
theorem dX10_rod_16 : decode cX10_rod 16 = .ok (.lconst 1, 1) := by decide +kernel
theorem dX10_rod_17 : decode cX10_rod 17 = .ok (.invokestatic 193, 3) := by decide +kernel
theorem dX10_rod_20 : decode cX10_rod 20 = .ok (.ifCond .ne 10, 3) := by decide +kernel
theorem dX10_rod_23 : decode cX10_rod 23 = .ok (.aload_n 0, 1) := by decide +kernel
theorem dX10_rod_24 : decode cX10_rod 24 = .ok (.bipush (-2), 2) := by decide +kernel
theorem dX10_rod_26 : decode cX10_rod 26 = .ok (.invokevirtual 131, 3) := by decide +kernel
theorem dX10_rod_29 : decode cX10_rod 29 = .ok (.ireturn, 1) := by decide +kernel
theorem dX10_rod_30 : decode cX10_rod 30 = .ok (.aload_n 0, 1) := by decide +kernel
theorem dX10_rod_31 : decode cX10_rod 31 = .ok (.getfield 17, 3) := by decide +kernel
theorem dX10_rod_34 : decode cX10_rod 34 = .ok (.sipush 242, 3) := by decide +kernel
theorem dX10_rod_37 : decode cX10_rod 37 = .ok (.iload_n 1, 1) := by decide +kernel
theorem dX10_rod_38 : decode cX10_rod 38 = .ok (.imul, 1) := by decide +kernel
theorem dX10_rod_39 : decode cX10_rod 39 = .ok (.iload_n 2, 1) := by decide +kernel
theorem dX10_rod_40 : decode cX10_rod 40 = .ok (.iadd, 1) := by decide +kernel
theorem dX10_rod_41 : decode cX10_rod 41 = .ok (.iaload, 1) := by decide +kernel
theorem dX10_rod_42 : decode cX10_rod 42 = .ok (.ireturn, 1) := by decide +kernel
theorem dX10_cell_0 : decode cX10_cell 0 = .ok (.aload_n 0, 1) := by decide +kernel
theorem dX10_cell_1 : decode cX10_cell 1 = .ok (.iconst 0, 1) := by decide +kernel
theorem dX10_cell_2 : decode cX10_cell 2 = .ok (.putfield 1, 3) := by decide +kernel
theorem dX10_cell_5 : decode cX10_cell 5 = .ok (.aload_n 0, 1) := by decide +kernel
theorem dX10_cell_6 : decode cX10_cell 6 = .ok (.iload_n 1, 1) := by decide +kernel
theorem dX10_cell_7 : decode cX10_cell 7 = .ok (.invokevirtual 277, 3) := by decide +kernel
theorem dX10_cell_10 : decode cX10_cell 10 = .ok (.ifCond .eq 39, 3) := by decide +kernel
theorem dX10_cell_13 : decode cX10_cell 13 = .ok (.iload_n 2, 1) := by decide +kernel
theorem dX10_cell_14 : decode cX10_cell 14 = .ok (.i2l, 1) := by decide +kernel
theorem dX10_cell_15 : decode cX10_cell 15 = .ok (.lconst 0, 1) := by decide +kernel
theorem dX10_cell_16 : decode cX10_cell 16 = .ok (.aload_n 0, 1) := by decide +kernel
theorem dX10_cell_17 : decode cX10_cell 17 = .ok (.getfield 17, 3) := by decide +kernel
theorem dX10_cell_20 : decode cX10_cell 20 = .ok (.sipush 242, 3) := by decide +kernel
theorem dX10_cell_23 : decode cX10_cell 23 = .ok (.iload_n 1, 1) := by decide +kernel
theorem dX10_cell_24 : decode cX10_cell 24 = .ok (.imul, 1) := by decide +kernel
theorem dX10_cell_25 : decode cX10_cell 25 = .ok (.iconst 0, 1) := by decide +kernel
theorem dX10_cell_26 : decode cX10_cell 26 = .ok (.iadd, 1) := by decide +kernel
theorem dX10_cell_27 : decode cX10_cell 27 = .ok (.iaload, 1) := by decide +kernel
theorem dX10_cell_28 : decode cX10_cell 28 = .ok (.iconst 1, 1) := by decide +kernel
theorem dX10_cell_29 : decode cX10_cell 29 = .ok (.isub, 1) := by decide +kernel
theorem dX10_cell_30 : decode cX10_cell 30 = .ok (.i2l, 1) := by decide +kernel
theorem dX10_cell_31 : decode cX10_cell 31 = .ok (.invokestatic 193, 3) := by decide +kernel
theorem dX10_cell_34 : decode cX10_cell 34 = .ok (.ifCond .eq 15, 3) := by decide +kernel
theorem dX10_cell_37 : decode cX10_cell 37 = .ok (.iload_n 3, 1) := by decide +kernel
theorem dX10_cell_38 : decode cX10_cell 38 = .ok (.i2l, 1) := by decide +kernel
theorem dX10_cell_39 : decode cX10_cell 39 = .ok (.lconst 0, 1) := by decide +kernel
theorem dX10_cell_40 : decode cX10_cell 40 = .ok (.ldc2_w 280, 3) := by decide +kernel
theorem dX10_cell_43 : decode cX10_cell 43 = .ok (.invokestatic 193, 3) := by decide +kernel
theorem dX10_cell_46 : decode cX10_cell 46 = .ok (.ifCond .ne 10, 3) := by decide +kernel
theorem dX10_cell_49 : decode cX10_cell 49 = .ok (.aload_n 0, 1) := by decide +kernel
theorem dX10_cell_50 : decode cX10_cell 50 = .ok (.bipush (-2), 2) := by decide +kernel
theorem dX10_cell_52 : decode cX10_cell 52 = .ok (.invokevirtual 131, 3) := by decide +kernel
theorem dX10_cell_55 : decode cX10_cell 55 = .ok (.ireturn, 1) := by decide +kernel
theorem dX10_cell_56 : decode cX10_cell 56 = .ok (.iload_n 3, 1) := by decide +kernel
theorem dX10_cell_57 : decode cX10_cell 57 = .ok (.iconst 4, 1) := by decide +kernel
theorem dX10_cell_58 : decode cX10_cell 58 = .ok (.if_icmp .ne 15, 3) := by decide +kernel
theorem dX10_cell_61 : decode cX10_cell 61 = .ok (.aload_n 0, 1) := by decide +kernel
theorem dX10_cell_62 : decode cX10_cell 62 = .ok (.iload_n 1, 1) := by decide +kernel
theorem dX10_cell_63 : decode cX10_cell 63 = .ok (.invokevirtual 282, 3) := by decide +kernel
theorem dX10_cell_66 : decode cX10_cell 66 = .ok (.aload_n 0, 1) := by decide +kernel
theorem dX10_cell_67 : decode cX10_cell 67 = .ok (.getfield 45, 3) := by decide +kernel
theorem dX10_cell_70 : decode cX10_cell 70 = .ok (.iload_n 2, 1) := by decide +kernel
theorem dX10_cell_71 : decode cX10_cell 71 = .ok (.iaload, 1) := by decide +kernel
theorem dX10_cell_72 : decode cX10_cell 72 = .ok (.ireturn, 1) := by decide +kernel
theorem dX10_cell_73 : decode cX10_cell 73 = .ok (.aload_n 0, 1) := by decide +kernel
theorem dX10_cell_74 : decode cX10_cell 74 = .ok (.getfield 17, 3) := by decide +kernel
theorem dX10_cell_77 : decode cX10_cell 77 = .ok (.sipush 242, 3) := by decide +kernel
theorem dX10_cell_80 : decode cX10_cell 80 = .ok (.iload_n 1, 1) := by decide +kernel
theorem dX10_cell_81 : decode cX10_cell 81 = .ok (.imul, 1) := by decide +kernel
theorem dX10_cell_82 : decode cX10_cell 82 = .ok (.iconst 2, 1) := by decide +kernel
theorem dX10_cell_83 : decode cX10_cell 83 = .ok (.iadd, 1) := by decide +kernel
theorem dX10_cell_84 : decode cX10_cell 84 = .ok (.bipush 60, 2) := by decide +kernel
theorem dX10_cell_86 : decode cX10_cell 86 = .ok (.iload_n 3, 1) := by decide +kernel
theorem dX10_cell_87 : decode cX10_cell 87 = .ok (.imul, 1) := by decide +kernel
theorem dX10_cell_88 : decode cX10_cell 88 = .ok (.iadd, 1) := by decide +kernel
theorem dX10_cell_89 : decode cX10_cell 89 = .ok (.iload_n 2, 1) := by decide +kernel
theorem dX10_cell_90 : decode cX10_cell 90 = .ok (.iadd, 1) := by decide +kernel
theorem dX10_cell_91 : decode cX10_cell 91 = .ok (.iaload, 1) := by decide +kernel
theorem dX10_cell_92 : decode cX10_cell 92 = .ok (.ireturn, 1) := by decide +kernel
theorem dX10_strength_0 : decode cX10_strength 0 = .ok (.aload_n 0, 1) := by decide +kernel
theorem dX10_strength_1 : decode cX10_strength 1 = .ok (.iconst 0, 1) := by decide +kernel
theorem dX10_strength_2 : decode cX10_strength 2 = .ok (.putfield 1, 3) := by decide +kernel
theorem dX10_strength_5 : decode cX10_strength 5 = .ok (.aload_n 0, 1) := by decide +kernel
theorem dX10_strength_6 : decode cX10_strength 6 = .ok (.iload_n 1, 1) := by decide +kernel
theorem dX10_strength_7 : decode cX10_strength 7 = .ok (.invokevirtual 277, 3) := by decide +kernel
theorem dX10_strength_10 : decode cX10_strength 10 = .ok (.ifCond .eq 27, 3) := by decide +kernel
theorem dX10_strength_13 : decode cX10_strength 13 = .ok (.iload_n 2, 1) := by decide +kernel
theorem dX10_strength_14 : decode cX10_strength 14 = .ok (.i2l, 1) := by decide +kernel
theorem dX10_strength_15 : decode cX10_strength 15 = .ok (.lconst 0, 1) := by decide +kernel
theorem dX10_strength_16 : decode cX10_strength 16 = .ok (.aload_n 0, 1) := by decide +kernel
theorem dX10_strength_17 : decode cX10_strength 17 = .ok (.getfield 17, 3) := by decide +kernel
theorem dX10_strength_20 : decode cX10_strength 20 = .ok (.sipush 242, 3) := by decide +kernel
theorem dX10_strength_23 : decode cX10_strength 23 = .ok (.iload_n 1, 1) := by decide +kernel
theorem dX10_strength_24 : decode cX10_strength 24 = .ok (.imul, 1) := by decide +kernel
theorem dX10_strength_25 : decode cX10_strength 25 = .ok (.iconst 0, 1) := by decide +kernel
theorem dX10_strength_26 : decode cX10_strength 26 = .ok (.iadd, 1) := by decide +kernel
theorem dX10_strength_27 : decode cX10_strength 27 = .ok (.iaload, 1) := by decide +kernel
theorem dX10_strength_28 : decode cX10_strength 28 = .ok (.iconst 1, 1) := by decide +kernel
theorem dX10_strength_29 : decode cX10_strength 29 = .ok (.isub, 1) := by decide +kernel
theorem dX10_strength_30 : decode cX10_strength 30 = .ok (.i2l, 1) := by decide +kernel
theorem dX10_strength_31 : decode cX10_strength 31 = .ok (.invokestatic 193, 3) := by decide +kernel
theorem dX10_strength_34 : decode cX10_strength 34 = .ok (.ifCond .ne 10, 3) := by decide +kernel
theorem dX10_strength_37 : decode cX10_strength 37 = .ok (.aload_n 0, 1) := by decide +kernel
theorem dX10_strength_38 : decode cX10_strength 38 = .ok (.bipush (-2), 2) := by decide +kernel
theorem dX10_strength_40 : decode cX10_strength 40 = .ok (.invokevirtual 131, 3) := by decide +kernel
theorem dX10_strength_43 : decode cX10_strength 43 = .ok (.ireturn, 1) := by decide +kernel
theorem dX10_strength_44 : decode cX10_strength 44 = .ok (.aload_n 0, 1) := by decide +kernel
theorem dX10_strength_45 : decode cX10_strength 45 = .ok (.iload_n 1, 1) := by decide +kernel
theorem dX10_strength_46 : decode cX10_strength 46 = .ok (.invokevirtual 282, 3) := by decide +kernel
theorem dX10_strength_49 : decode cX10_strength 49 = .ok (.aload_n 0, 1) := by decide +kernel
theorem dX10_strength_50 : decode cX10_strength 50 = .ok (.iload_n 3, 1) := by decide +kernel
theorem dX10_strength_51 : decode cX10_strength 51 = .ok (.invokevirtual 285, 3) := by decide +kernel
theorem dX10_strength_54 : decode cX10_strength 54 = .ok (.aload_n 0, 1) := by decide +kernel
theorem dX10_strength_55 : decode cX10_strength 55 = .ok (.getfield 48, 3) := by decide +kernel
theorem dX10_strength_58 : decode cX10_strength 58 = .ok (.iload_n 2, 1) := by decide +kernel
theorem dX10_strength_59 : decode cX10_strength 59 = .ok (.iaload, 1) := by decide +kernel
theorem dX10_strength_60 : decode cX10_strength 60 = .ok (.ireturn, 1) := by decide +kernel
theorem dX10_does_0 : decode cX10_does 0 = .ok (.sipush 968, 3) := by decide +kernel
theorem dX10_does_3 : decode cX10_does 3 = .ok (.bipush 37, 2) := by decide +kernel
theorem dX10_does_5 : decode cX10_does 5 = .ok (.iload_n 1, 1) := by decide +kernel
theorem dX10_does_6 : decode cX10_does 6 = .ok (.imul, 1) := by decide +kernel
theorem dX10_does_7 : decode cX10_does 7 = .ok (.iadd, 1) := by decide +kernel
theorem dX10_does_8 : decode cX10_does 8 = .ok (.istore_n 3, 1) := by decide +kernel
theorem dX10_does_9 : decode cX10_does 9 = .ok (.aload_n 0, 1) := by decide +kernel
theorem dX10_does_10 : decode cX10_does 10 = .ok (.aload_n 0, 1) := by decide +kernel
theorem dX10_does_11 : decode cX10_does 11 = .ok (.getfield 17, 3) := by decide +kernel
theorem dX10_does_14 : decode cX10_does 14 = .ok (.iload_n 3, 1) := by decide +kernel
theorem dX10_does_15 : decode cX10_does 15 = .ok (.iconst 0, 1) := by decide +kernel
theorem dX10_does_16 : decode cX10_does 16 = .ok (.iadd, 1) := by decide +kernel
theorem dX10_does_17 : decode cX10_does 17 = .ok (.iaload, 1) := by decide +kernel
theorem dX10_does_18 : decode cX10_does 18 = .ok (.putfield 288, 3) := by decide +kernel
theorem dX10_does_21 : decode cX10_does 21 = .ok (.aload_n 0, 1) := by decide +kernel
theorem dX10_does_22 : decode cX10_does 22 = .ok (.iconst 0, 1) := by decide +kernel
theorem dX10_does_23 : decode cX10_does 23 = .ok (.putfield 291, 3) := by decide +kernel
theorem dX10_does_26 : decode cX10_does 26 = .ok (.iconst 0, 1) := by decide +kernel
theorem dX10_does_27 : decode cX10_does 27 = .ok (.istore 4, 2) := by decide +kernel
theorem dX10_does_29 : decode cX10_does 29 = .ok (.iload 4, 2) := by decide +kernel
theorem dX10_does_31 : decode cX10_does 31 = .ok (.aload_n 0, 1) := by decide +kernel
theorem dX10_does_32 : decode cX10_does 32 = .ok (.getfield 288, 3) := by decide +kernel
theorem dX10_does_35 : decode cX10_does 35 = .ok (.if_icmp .ge 85, 3) := by decide +kernel
theorem dX10_does_38 : decode cX10_does 38 = .ok (.aload_n 0, 1) := by decide +kernel
theorem dX10_does_39 : decode cX10_does 39 = .ok (.getfield 57, 3) := by decide +kernel
theorem dX10_does_42 : decode cX10_does 42 = .ok (.iload 4, 2) := by decide +kernel
theorem dX10_does_44 : decode cX10_does 44 = .ok (.aload_n 0, 1) := by decide +kernel
theorem dX10_does_45 : decode cX10_does 45 = .ok (.getfield 17, 3) := by decide +kernel
theorem dX10_does_48 : decode cX10_does 48 = .ok (.iload_n 3, 1) := by decide +kernel
theorem dX10_does_49 : decode cX10_does 49 = .ok (.iconst 1, 1) := by decide +kernel
theorem dX10_does_50 : decode cX10_does 50 = .ok (.iadd, 1) := by decide +kernel
theorem dX10_does_51 : decode cX10_does 51 = .ok (.iload 4, 2) := by decide +kernel
theorem dX10_does_53 : decode cX10_does 53 = .ok (.iadd, 1) := by decide +kernel
theorem dX10_does_54 : decode cX10_does 54 = .ok (.iaload, 1) := by decide +kernel
theorem dX10_does_55 : decode cX10_does 55 = .ok (.iastore, 1) := by decide +kernel
theorem dX10_does_56 : decode cX10_does 56 = .ok (.aload_n 0, 1) := by decide +kernel
theorem dX10_does_57 : decode cX10_does 57 = .ok (.getfield 60, 3) := by decide +kernel
theorem dX10_does_60 : decode cX10_does 60 = .ok (.iload 4, 2) := by decide +kernel
theorem dX10_does_62 : decode cX10_does 62 = .ok (.aload_n 0, 1) := by decide +kernel
theorem dX10_does_63 : decode cX10_does 63 = .ok (.getfield 17, 3) := by decide +kernel
theorem dX10_does_66 : decode cX10_does 66 = .ok (.iload_n 3, 1) := by decide +kernel
theorem dX10_does_67 : decode cX10_does 67 = .ok (.bipush 13, 2) := by decide +kernel
theorem dX10_does_69 : decode cX10_does 69 = .ok (.iadd, 1) := by decide +kernel
theorem dX10_does_70 : decode cX10_does 70 = .ok (.iload 4, 2) := by decide +kernel
theorem dX10_does_72 : decode cX10_does 72 = .ok (.iadd, 1) := by decide +kernel
theorem dX10_does_73 : decode cX10_does 73 = .ok (.iaload, 1) := by decide +kernel
theorem dX10_does_74 : decode cX10_does 74 = .ok (.iload_n 2, 1) := by decide +kernel
theorem dX10_does_75 : decode cX10_does 75 = .ok (.idiv, 1) := by decide +kernel
theorem dX10_does_76 : decode cX10_does 76 = .ok (.iastore, 1) := by decide +kernel
theorem dX10_does_77 : decode cX10_does 77 = .ok (.aload_n 0, 1) := by decide +kernel
theorem dX10_does_78 : decode cX10_does 78 = .ok (.getfield 63, 3) := by decide +kernel
theorem dX10_does_81 : decode cX10_does 81 = .ok (.iload 4, 2) := by decide +kernel
theorem dX10_does_83 : decode cX10_does 83 = .ok (.aload_n 0, 1) := by decide +kernel
theorem dX10_does_84 : decode cX10_does 84 = .ok (.getfield 17, 3) := by decide +kernel
theorem dX10_does_87 : decode cX10_does 87 = .ok (.iload_n 3, 1) := by decide +kernel
theorem dX10_does_88 : decode cX10_does 88 = .ok (.bipush 25, 2) := by decide +kernel
theorem dX10_does_90 : decode cX10_does 90 = .ok (.iadd, 1) := by decide +kernel
theorem dX10_does_91 : decode cX10_does 91 = .ok (.iload 4, 2) := by decide +kernel
theorem dX10_does_93 : decode cX10_does 93 = .ok (.iadd, 1) := by decide +kernel
theorem dX10_does_94 : decode cX10_does 94 = .ok (.iaload, 1) := by decide +kernel
theorem dX10_does_95 : decode cX10_does 95 = .ok (.iload_n 2, 1) := by decide +kernel
theorem dX10_does_96 : decode cX10_does 96 = .ok (.imul, 1) := by decide +kernel
theorem dX10_does_97 : decode cX10_does 97 = .ok (.iastore, 1) := by decide +kernel
theorem dX10_does_98 : decode cX10_does 98 = .ok (.aload_n 0, 1) := by decide +kernel
theorem dX10_does_99 : decode cX10_does 99 = .ok (.dup, 1) := by decide +kernel
theorem dX10_does_100 : decode cX10_does 100 = .ok (.getfield 291, 3) := by decide +kernel
theorem dX10_does_103 : decode cX10_does 103 = .ok (.aload_n 0, 1) := by decide +kernel
theorem dX10_does_104 : decode cX10_does 104 = .ok (.getfield 63, 3) := by decide +kernel
theorem dX10_does_107 : decode cX10_does 107 = .ok (.iload 4, 2) := by decide +kernel
theorem dX10_does_109 : decode cX10_does 109 = .ok (.iaload, 1) := by decide +kernel
theorem dX10_does_110 : decode cX10_does 110 = .ok (.iadd, 1) := by decide +kernel
theorem dX10_does_111 : decode cX10_does 111 = .ok (.putfield 291, 3) := by decide +kernel
theorem dX10_does_114 : decode cX10_does 114 = .ok (.iinc 4 1, 3) := by decide +kernel
theorem dX10_does_117 : decode cX10_does 117 = .ok (.goto (-88), 3) := by decide +kernel
theorem dX10_does_120 : decode cX10_does 120 = .ok (.aload_n 0, 1) := by decide +kernel
theorem dX10_does_121 : decode cX10_does 121 = .ok (.invokevirtual 294, 3) := by decide +kernel
theorem dX10_does_124 : decode cX10_does 124 = .ok (.return_, 1) := by decide +kernel
theorem dX10_laysTicks_0 : decode cX10_laysTicks 0 = .ok (.aload_n 0, 1) := by decide +kernel
theorem dX10_laysTicks_1 : decode cX10_laysTicks 1 = .ok (.iconst 0, 1) := by decide +kernel
theorem dX10_laysTicks_2 : decode cX10_laysTicks 2 = .ok (.putfield 297, 3) := by decide +kernel
theorem dX10_laysTicks_5 : decode cX10_laysTicks 5 = .ok (.aload_n 0, 1) := by decide +kernel
theorem dX10_laysTicks_6 : decode cX10_laysTicks 6 = .ok (.iconst 0, 1) := by decide +kernel
theorem dX10_laysTicks_7 : decode cX10_laysTicks 7 = .ok (.putfield 300, 3) := by decide +kernel
theorem dX10_laysTicks_10 : decode cX10_laysTicks 10 = .ok (.aload_n 0, 1) := by decide +kernel
theorem dX10_laysTicks_11 : decode cX10_laysTicks 11 = .ok (.iconst 0, 1) := by decide +kernel
theorem dX10_laysTicks_12 : decode cX10_laysTicks 12 = .ok (.putfield 303, 3) := by decide +kernel
theorem dX10_laysTicks_15 : decode cX10_laysTicks 15 = .ok (.aload_n 0, 1) := by decide +kernel
theorem dX10_laysTicks_16 : decode cX10_laysTicks 16 = .ok (.iconst 0, 1) := by decide +kernel
theorem dX10_laysTicks_17 : decode cX10_laysTicks 17 = .ok (.putfield 306, 3) := by decide +kernel
theorem dX10_laysTicks_20 : decode cX10_laysTicks 20 = .ok (.iconst 0, 1) := by decide +kernel
theorem dX10_laysTicks_21 : decode cX10_laysTicks 21 = .ok (.istore_n 1, 1) := by decide +kernel
theorem dX10_laysTicks_22 : decode cX10_laysTicks 22 = .ok (.iload_n 1, 1) := by decide +kernel
theorem dX10_laysTicks_23 : decode cX10_laysTicks 23 = .ok (.aload_n 0, 1) := by decide +kernel
theorem dX10_laysTicks_24 : decode cX10_laysTicks 24 = .ok (.getfield 288, 3) := by decide +kernel
theorem dX10_laysTicks_27 : decode cX10_laysTicks 27 = .ok (.if_icmp .ge 104, 3) := by decide +kernel
theorem dX10_laysTicks_30 : decode cX10_laysTicks 30 = .ok (.iconst 0, 1) := by decide +kernel
theorem dX10_laysTicks_31 : decode cX10_laysTicks 31 = .ok (.istore_n 2, 1) := by decide +kernel
theorem dX10_laysTicks_32 : decode cX10_laysTicks 32 = .ok (.iload_n 2, 1) := by decide +kernel
theorem dX10_laysTicks_33 : decode cX10_laysTicks 33 = .ok (.aload_n 0, 1) := by decide +kernel
theorem dX10_laysTicks_34 : decode cX10_laysTicks 34 = .ok (.getfield 63, 3) := by decide +kernel
theorem dX10_laysTicks_37 : decode cX10_laysTicks 37 = .ok (.iload_n 1, 1) := by decide +kernel
theorem dX10_laysTicks_38 : decode cX10_laysTicks 38 = .ok (.iaload, 1) := by decide +kernel
theorem dX10_laysTicks_39 : decode cX10_laysTicks 39 = .ok (.if_icmp .ge 86, 3) := by decide +kernel
theorem dX10_laysTicks_42 : decode cX10_laysTicks 42 = .ok (.aload_n 0, 1) := by decide +kernel
theorem dX10_laysTicks_43 : decode cX10_laysTicks 43 = .ok (.getfield 303, 3) := by decide +kernel
theorem dX10_laysTicks_46 : decode cX10_laysTicks 46 = .ok (.sipush 4000, 3) := by decide +kernel
theorem dX10_laysTicks_49 : decode cX10_laysTicks 49 = .ok (.if_icmp .ge 76, 3) := by decide +kernel
theorem dX10_laysTicks_52 : decode cX10_laysTicks 52 = .ok (.aload_n 0, 1) := by decide +kernel
theorem dX10_laysTicks_53 : decode cX10_laysTicks 53 = .ok (.iload_n 1, 1) := by decide +kernel
theorem dX10_laysTicks_54 : decode cX10_laysTicks 54 = .ok (.invokevirtual 309, 3) := by decide +kernel
theorem dX10_laysTicks_57 : decode cX10_laysTicks 57 = .ok (.aload_n 0, 1) := by decide +kernel
theorem dX10_laysTicks_58 : decode cX10_laysTicks 58 = .ok (.getfield 51, 3) := by decide +kernel
theorem dX10_laysTicks_61 : decode cX10_laysTicks 61 = .ok (.aload_n 0, 1) := by decide +kernel
theorem dX10_laysTicks_62 : decode cX10_laysTicks 62 = .ok (.getfield 303, 3) := by decide +kernel
theorem dX10_laysTicks_65 : decode cX10_laysTicks 65 = .ok (.aload_n 0, 1) := by decide +kernel
theorem dX10_laysTicks_66 : decode cX10_laysTicks 66 = .ok (.getfield 297, 3) := by decide +kernel
theorem dX10_laysTicks_69 : decode cX10_laysTicks 69 = .ok (.iastore, 1) := by decide +kernel
theorem dX10_laysTicks_70 : decode cX10_laysTicks 70 = .ok (.aload_n 0, 1) := by decide +kernel
theorem dX10_laysTicks_71 : decode cX10_laysTicks 71 = .ok (.getfield 54, 3) := by decide +kernel
theorem dX10_laysTicks_74 : decode cX10_laysTicks 74 = .ok (.aload_n 0, 1) := by decide +kernel
theorem dX10_laysTicks_75 : decode cX10_laysTicks 75 = .ok (.getfield 303, 3) := by decide +kernel
theorem dX10_laysTicks_78 : decode cX10_laysTicks 78 = .ok (.aload_n 0, 1) := by decide +kernel
theorem dX10_laysTicks_79 : decode cX10_laysTicks 79 = .ok (.getfield 300, 3) := by decide +kernel
theorem dX10_laysTicks_82 : decode cX10_laysTicks 82 = .ok (.iastore, 1) := by decide +kernel
theorem dX10_laysTicks_83 : decode cX10_laysTicks 83 = .ok (.aload_n 0, 1) := by decide +kernel
theorem dX10_laysTicks_84 : decode cX10_laysTicks 84 = .ok (.aload_n 0, 1) := by decide +kernel
theorem dX10_laysTicks_85 : decode cX10_laysTicks 85 = .ok (.getfield 297, 3) := by decide +kernel
theorem dX10_laysTicks_88 : decode cX10_laysTicks 88 = .ok (.aload_n 0, 1) := by decide +kernel
theorem dX10_laysTicks_89 : decode cX10_laysTicks 89 = .ok (.getfield 306, 3) := by decide +kernel
theorem dX10_laysTicks_92 : decode cX10_laysTicks 92 = .ok (.if_icmp .le 10, 3) := by decide +kernel
theorem dX10_laysTicks_95 : decode cX10_laysTicks 95 = .ok (.aload_n 0, 1) := by decide +kernel
theorem dX10_laysTicks_96 : decode cX10_laysTicks 96 = .ok (.getfield 297, 3) := by decide +kernel
theorem dX10_laysTicks_99 : decode cX10_laysTicks 99 = .ok (.goto 7, 3) := by decide +kernel
theorem dX10_laysTicks_102 : decode cX10_laysTicks 102 = .ok (.aload_n 0, 1) := by decide +kernel
theorem dX10_laysTicks_103 : decode cX10_laysTicks 103 = .ok (.getfield 306, 3) := by decide +kernel
theorem dX10_laysTicks_106 : decode cX10_laysTicks 106 = .ok (.putfield 306, 3) := by decide +kernel
theorem dX10_laysTicks_109 : decode cX10_laysTicks 109 = .ok (.aload_n 0, 1) := by decide +kernel
theorem dX10_laysTicks_110 : decode cX10_laysTicks 110 = .ok (.dup, 1) := by decide +kernel
theorem dX10_laysTicks_111 : decode cX10_laysTicks 111 = .ok (.getfield 303, 3) := by decide +kernel
theorem dX10_laysTicks_114 : decode cX10_laysTicks 114 = .ok (.iconst 1, 1) := by decide +kernel
theorem dX10_laysTicks_115 : decode cX10_laysTicks 115 = .ok (.iadd, 1) := by decide +kernel
theorem dX10_laysTicks_116 : decode cX10_laysTicks 116 = .ok (.putfield 303, 3) := by decide +kernel
theorem dX10_laysTicks_119 : decode cX10_laysTicks 119 = .ok (.iinc 2 1, 3) := by decide +kernel
theorem dX10_laysTicks_122 : decode cX10_laysTicks 122 = .ok (.goto (-90), 3) := by decide +kernel
theorem dX10_laysTicks_125 : decode cX10_laysTicks 125 = .ok (.iinc 1 1, 3) := by decide +kernel
theorem dX10_laysTicks_128 : decode cX10_laysTicks 128 = .ok (.goto (-106), 3) := by decide +kernel
theorem dX10_laysTicks_131 : decode cX10_laysTicks 131 = .ok (.return_, 1) := by decide +kernel
theorem dX10_acts_0 : decode cX10_acts 0 = .ok (.aload_n 0, 1) := by decide +kernel
theorem dX10_acts_1 : decode cX10_acts 1 = .ok (.dup, 1) := by decide +kernel
theorem dX10_acts_2 : decode cX10_acts 2 = .ok (.getfield 297, 3) := by decide +kernel
theorem dX10_acts_5 : decode cX10_acts 5 = .ok (.aload_n 0, 1) := by decide +kernel
theorem dX10_acts_6 : decode cX10_acts 6 = .ok (.getfield 57, 3) := by decide +kernel
theorem dX10_acts_9 : decode cX10_acts 9 = .ok (.iload_n 1, 1) := by decide +kernel
theorem dX10_acts_10 : decode cX10_acts 10 = .ok (.iaload, 1) := by decide +kernel
theorem dX10_acts_11 : decode cX10_acts 11 = .ok (.ifCond .ne 12, 3) := by decide +kernel
theorem dX10_acts_14 : decode cX10_acts 14 = .ok (.aload_n 0, 1) := by decide +kernel
theorem dX10_acts_15 : decode cX10_acts 15 = .ok (.getfield 60, 3) := by decide +kernel
theorem dX10_acts_18 : decode cX10_acts 18 = .ok (.iload_n 1, 1) := by decide +kernel
theorem dX10_acts_19 : decode cX10_acts 19 = .ok (.iaload, 1) := by decide +kernel
theorem dX10_acts_20 : decode cX10_acts 20 = .ok (.goto 24, 3) := by decide +kernel
theorem dX10_acts_23 : decode cX10_acts 23 = .ok (.aload_n 0, 1) := by decide +kernel
theorem dX10_acts_24 : decode cX10_acts 24 = .ok (.getfield 57, 3) := by decide +kernel
theorem dX10_acts_27 : decode cX10_acts 27 = .ok (.iload_n 1, 1) := by decide +kernel
theorem dX10_acts_28 : decode cX10_acts 28 = .ok (.iaload, 1) := by decide +kernel
theorem dX10_acts_29 : decode cX10_acts 29 = .ok (.iconst 1, 1) := by decide +kernel
theorem dX10_acts_30 : decode cX10_acts 30 = .ok (.if_icmp .ne 13, 3) := by decide +kernel
theorem dX10_acts_33 : decode cX10_acts 33 = .ok (.aload_n 0, 1) := by decide +kernel
theorem dX10_acts_34 : decode cX10_acts 34 = .ok (.getfield 60, 3) := by decide +kernel
theorem dX10_acts_37 : decode cX10_acts 37 = .ok (.iload_n 1, 1) := by decide +kernel
theorem dX10_acts_38 : decode cX10_acts 38 = .ok (.iaload, 1) := by decide +kernel
theorem dX10_acts_39 : decode cX10_acts 39 = .ok (.ineg, 1) := by decide +kernel
theorem dX10_acts_40 : decode cX10_acts 40 = .ok (.goto 4, 3) := by decide +kernel
theorem dX10_acts_43 : decode cX10_acts 43 = .ok (.iconst 0, 1) := by decide +kernel
theorem dX10_acts_44 : decode cX10_acts 44 = .ok (.iadd, 1) := by decide +kernel
theorem dX10_acts_45 : decode cX10_acts 45 = .ok (.putfield 297, 3) := by decide +kernel
theorem dX10_acts_48 : decode cX10_acts 48 = .ok (.aload_n 0, 1) := by decide +kernel
theorem dX10_acts_49 : decode cX10_acts 49 = .ok (.aload_n 0, 1) := by decide +kernel
theorem dX10_acts_50 : decode cX10_acts 50 = .ok (.getfield 297, 3) := by decide +kernel
theorem dX10_acts_53 : decode cX10_acts 53 = .ok (.ifCond .ge 7, 3) := by decide +kernel
theorem dX10_acts_56 : decode cX10_acts 56 = .ok (.iconst 0, 1) := by decide +kernel
theorem dX10_acts_57 : decode cX10_acts 57 = .ok (.goto 7, 3) := by decide +kernel
theorem dX10_acts_60 : decode cX10_acts 60 = .ok (.aload_n 0, 1) := by decide +kernel
theorem dX10_acts_61 : decode cX10_acts 61 = .ok (.getfield 297, 3) := by decide +kernel
theorem dX10_acts_64 : decode cX10_acts 64 = .ok (.putfield 297, 3) := by decide +kernel
theorem dX10_acts_67 : decode cX10_acts 67 = .ok (.aload_n 0, 1) := by decide +kernel
theorem dX10_acts_68 : decode cX10_acts 68 = .ok (.dup, 1) := by decide +kernel
theorem dX10_acts_69 : decode cX10_acts 69 = .ok (.getfield 300, 3) := by decide +kernel
theorem dX10_acts_72 : decode cX10_acts 72 = .ok (.aload_n 0, 1) := by decide +kernel
theorem dX10_acts_73 : decode cX10_acts 73 = .ok (.getfield 57, 3) := by decide +kernel
theorem dX10_acts_76 : decode cX10_acts 76 = .ok (.iload_n 1, 1) := by decide +kernel
theorem dX10_acts_77 : decode cX10_acts 77 = .ok (.iaload, 1) := by decide +kernel
theorem dX10_acts_78 : decode cX10_acts 78 = .ok (.iconst 2, 1) := by decide +kernel
theorem dX10_acts_79 : decode cX10_acts 79 = .ok (.if_icmp .ne 12, 3) := by decide +kernel
theorem dX10_acts_82 : decode cX10_acts 82 = .ok (.aload_n 0, 1) := by decide +kernel
theorem dX10_acts_83 : decode cX10_acts 83 = .ok (.getfield 60, 3) := by decide +kernel
theorem dX10_acts_86 : decode cX10_acts 86 = .ok (.iload_n 1, 1) := by decide +kernel
theorem dX10_acts_87 : decode cX10_acts 87 = .ok (.iaload, 1) := by decide +kernel
theorem dX10_acts_88 : decode cX10_acts 88 = .ok (.goto 4, 3) := by decide +kernel
theorem dX10_acts_91 : decode cX10_acts 91 = .ok (.iconst 0, 1) := by decide +kernel
theorem dX10_acts_92 : decode cX10_acts 92 = .ok (.iadd, 1) := by decide +kernel
theorem dX10_acts_93 : decode cX10_acts 93 = .ok (.putfield 300, 3) := by decide +kernel
theorem dX10_acts_96 : decode cX10_acts 96 = .ok (.return_, 1) := by decide +kernel
theorem dX10_isDoing_0 : decode cX10_isDoing 0 = .ok (.iload_n 0, 1) := by decide +kernel
theorem dX10_isDoing_1 : decode cX10_isDoing 1 = .ok (.i2l, 1) := by decide +kernel
theorem dX10_isDoing_2 : decode cX10_isDoing 2 = .ok (.lconst 0, 1) := by decide +kernel
theorem dX10_isDoing_3 : decode cX10_isDoing 3 = .ok (.ldc2_w 250, 3) := by decide +kernel
theorem dX10_isDoing_6 : decode cX10_isDoing 6 = .ok (.invokestatic 193, 3) := by decide +kernel
theorem dX10_isDoing_9 : decode cX10_isDoing 9 = .ok (.ireturn, 1) := by decide +kernel
theorem dX10_bent_0 : decode cX10_bent 0 = .ok (.aload_n 0, 1) := by decide +kernel
theorem dX10_bent_1 : decode cX10_bent 1 = .ok (.iconst 0, 1) := by decide +kernel
theorem dX10_bent_2 : decode cX10_bent 2 = .ok (.putfield 1, 3) := by decide +kernel
theorem dX10_bent_5 : decode cX10_bent 5 = .ok (.iload_n 1, 1) := by decide +kernel
theorem dX10_bent_6 : decode cX10_bent 6 = .ok (.invokestatic 312, 3) := by decide +kernel
theorem dX10_bent_9 : decode cX10_bent 9 = .ok (.ifCond .ne 10, 3) := by decide +kernel
theorem dX10_bent_12 : decode cX10_bent 12 = .ok (.aload_n 0, 1) := by decide +kernel
theorem dX10_bent_13 : decode cX10_bent 13 = .ok (.bipush (-2), 2) := by decide +kernel
theorem dX10_bent_15 : decode cX10_bent 15 = .ok (.invokevirtual 131, 3) := by decide +kernel
theorem dX10_bent_18 : decode cX10_bent 18 = .ok (.ireturn, 1) := by decide +kernel
theorem dX10_bent_19 : decode cX10_bent 19 = .ok (.iload_n 2, 1) := by decide +kernel
theorem dX10_bent_20 : decode cX10_bent 20 = .ok (.i2l, 1) := by decide +kernel
theorem dX10_bent_21 : decode cX10_bent 21 = .ok (.lconst 0, 1) := by decide +kernel
theorem dX10_bent_22 : decode cX10_bent 22 = .ok (.ldc2_w 315, 3) := by decide +kernel
theorem dX10_bent_25 : decode cX10_bent 25 = .ok (.invokestatic 193, 3) := by decide +kernel
theorem dX10_bent_28 : decode cX10_bent 28 = .ok (.ifCond .ne 10, 3) := by decide +kernel
theorem dX10_bent_31 : decode cX10_bent 31 = .ok (.aload_n 0, 1) := by decide +kernel
theorem dX10_bent_32 : decode cX10_bent 32 = .ok (.bipush (-3), 2) := by decide +kernel
theorem dX10_bent_34 : decode cX10_bent 34 = .ok (.invokevirtual 131, 3) := by decide +kernel
theorem dX10_bent_37 : decode cX10_bent 37 = .ok (.ireturn, 1) := by decide +kernel
theorem dX10_bent_38 : decode cX10_bent 38 = .ok (.aload_n 0, 1) := by decide +kernel
theorem dX10_bent_39 : decode cX10_bent 39 = .ok (.iload_n 1, 1) := by decide +kernel
theorem dX10_bent_40 : decode cX10_bent 40 = .ok (.iconst 1, 1) := by decide +kernel
theorem dX10_bent_41 : decode cX10_bent 41 = .ok (.invokevirtual 317, 3) := by decide +kernel
theorem dX10_bent_44 : decode cX10_bent 44 = .ok (.iload_n 2, 1) := by decide +kernel
theorem dX10_bent_45 : decode cX10_bent 45 = .ok (.aload_n 0, 1) := by decide +kernel
theorem dX10_bent_46 : decode cX10_bent 46 = .ok (.getfield 303, 3) := by decide +kernel
theorem dX10_bent_49 : decode cX10_bent 49 = .ok (.if_icmp .ge 7, 3) := by decide +kernel
theorem dX10_bent_52 : decode cX10_bent 52 = .ok (.iload_n 2, 1) := by decide +kernel
theorem dX10_bent_53 : decode cX10_bent 53 = .ok (.goto 9, 3) := by decide +kernel
theorem dX10_bent_56 : decode cX10_bent 56 = .ok (.aload_n 0, 1) := by decide +kernel
theorem dX10_bent_57 : decode cX10_bent 57 = .ok (.getfield 303, 3) := by decide +kernel
theorem dX10_bent_60 : decode cX10_bent 60 = .ok (.iconst 1, 1) := by decide +kernel
theorem dX10_bent_61 : decode cX10_bent 61 = .ok (.isub, 1) := by decide +kernel
theorem dX10_bent_62 : decode cX10_bent 62 = .ok (.istore 4, 2) := by decide +kernel
theorem dX10_bent_64 : decode cX10_bent 64 = .ok (.iload 4, 2) := by decide +kernel
theorem dX10_bent_66 : decode cX10_bent 66 = .ok (.ifCond .ge 7, 3) := by decide +kernel
theorem dX10_bent_69 : decode cX10_bent 69 = .ok (.iconst 0, 1) := by decide +kernel
theorem dX10_bent_70 : decode cX10_bent 70 = .ok (.goto 24, 3) := by decide +kernel
theorem dX10_bent_73 : decode cX10_bent 73 = .ok (.iload_n 3, 1) := by decide +kernel
theorem dX10_bent_74 : decode cX10_bent 74 = .ok (.ifCond .eq 13, 3) := by decide +kernel
theorem dX10_bent_77 : decode cX10_bent 77 = .ok (.aload_n 0, 1) := by decide +kernel
theorem dX10_bent_78 : decode cX10_bent 78 = .ok (.getfield 54, 3) := by decide +kernel
theorem dX10_bent_81 : decode cX10_bent 81 = .ok (.iload 4, 2) := by decide +kernel
theorem dX10_bent_83 : decode cX10_bent 83 = .ok (.iaload, 1) := by decide +kernel
theorem dX10_bent_84 : decode cX10_bent 84 = .ok (.goto 10, 3) := by decide +kernel
theorem dX10_bent_87 : decode cX10_bent 87 = .ok (.aload_n 0, 1) := by decide +kernel
theorem dX10_bent_88 : decode cX10_bent 88 = .ok (.getfield 51, 3) := by decide +kernel
theorem dX10_bent_91 : decode cX10_bent 91 = .ok (.iload 4, 2) := by decide +kernel
theorem dX10_bent_93 : decode cX10_bent 93 = .ok (.iaload, 1) := by decide +kernel
theorem dX10_bent_94 : decode cX10_bent 94 = .ok (.ireturn, 1) := by decide +kernel
theorem dX10_loadOf_0 : decode cX10_loadOf 0 = .ok (.aload_n 0, 1) := by decide +kernel
theorem dX10_loadOf_1 : decode cX10_loadOf 1 = .ok (.getfield 69, 3) := by decide +kernel
theorem dX10_loadOf_4 : decode cX10_loadOf 4 = .ok (.iload_n 1, 1) := by decide +kernel
theorem dX10_loadOf_5 : decode cX10_loadOf 5 = .ok (.baload, 1) := by decide +kernel
theorem dX10_loadOf_6 : decode cX10_loadOf 6 = .ok (.ifCond .eq 5, 3) := by decide +kernel
theorem dX10_loadOf_9 : decode cX10_loadOf 9 = .ok (.iconst 0, 1) := by decide +kernel
theorem dX10_loadOf_10 : decode cX10_loadOf 10 = .ok (.ireturn, 1) := by decide +kernel
theorem dX10_loadOf_11 : decode cX10_loadOf 11 = .ok (.aload_n 0, 1) := by decide +kernel
theorem dX10_loadOf_12 : decode cX10_loadOf 12 = .ok (.iload_n 1, 1) := by decide +kernel
theorem dX10_loadOf_13 : decode cX10_loadOf 13 = .ok (.aload_n 0, 1) := by decide +kernel
theorem dX10_loadOf_14 : decode cX10_loadOf 14 = .ok (.getfield 297, 3) := by decide +kernel
theorem dX10_loadOf_17 : decode cX10_loadOf 17 = .ok (.invokevirtual 320, 3) := by decide +kernel
theorem dX10_loadOf_20 : decode cX10_loadOf 20 = .ok (.ireturn, 1) := by decide +kernel
theorem dX10_loadBy_0 : decode cX10_loadBy 0 = .ok (.iload_n 2, 1) := by decide +kernel
theorem dX10_loadBy_1 : decode cX10_loadBy 1 = .ok (.aload_n 0, 1) := by decide +kernel
theorem dX10_loadBy_2 : decode cX10_loadBy 2 = .ok (.getfield 45, 3) := by decide +kernel
theorem dX10_loadBy_5 : decode cX10_loadBy 5 = .ok (.iload_n 1, 1) := by decide +kernel
theorem dX10_loadBy_6 : decode cX10_loadBy 6 = .ok (.iaload, 1) := by decide +kernel
theorem dX10_loadBy_7 : decode cX10_loadBy 7 = .ok (.imul, 1) := by decide +kernel
theorem dX10_loadBy_8 : decode cX10_loadBy 8 = .ok (.bipush 10, 2) := by decide +kernel
theorem dX10_loadBy_10 : decode cX10_loadBy 10 = .ok (.aload_n 0, 1) := by decide +kernel
theorem dX10_loadBy_11 : decode cX10_loadBy 11 = .ok (.getfield 33, 3) := by decide +kernel
theorem dX10_loadBy_14 : decode cX10_loadBy 14 = .ok (.iload_n 1, 1) := by decide +kernel
theorem dX10_loadBy_15 : decode cX10_loadBy 15 = .ok (.iaload, 1) := by decide +kernel
theorem dX10_loadBy_16 : decode cX10_loadBy 16 = .ok (.imul, 1) := by decide +kernel
theorem dX10_loadBy_17 : decode cX10_loadBy 17 = .ok (.idiv, 1) := by decide +kernel
theorem dX10_loadBy_18 : decode cX10_loadBy 18 = .ok (.iload_n 1, 1) := by decide +kernel
theorem dX10_loadBy_19 : decode cX10_loadBy 19 = .ok (.ifCond .eq 13, 3) := by decide +kernel
theorem dX10_loadBy_22 : decode cX10_loadBy 22 = .ok (.iload_n 1, 1) := by decide +kernel
theorem dX10_loadBy_23 : decode cX10_loadBy 23 = .ok (.aload_n 0, 1) := by decide +kernel
theorem dX10_loadBy_24 : decode cX10_loadBy 24 = .ok (.getfield 267, 3) := by decide +kernel
theorem dX10_loadBy_27 : decode cX10_loadBy 27 = .ok (.iconst 1, 1) := by decide +kernel
theorem dX10_loadBy_28 : decode cX10_loadBy 28 = .ok (.isub, 1) := by decide +kernel
theorem dX10_loadBy_29 : decode cX10_loadBy 29 = .ok (.if_icmp .ne 19, 3) := by decide +kernel
theorem dX10_loadBy_32 : decode cX10_loadBy 32 = .ok (.iload_n 2, 1) := by decide +kernel
theorem dX10_loadBy_33 : decode cX10_loadBy 33 = .ok (.aload_n 0, 1) := by decide +kernel
theorem dX10_loadBy_34 : decode cX10_loadBy 34 = .ok (.getfield 17, 3) := by decide +kernel
theorem dX10_loadBy_37 : decode cX10_loadBy 37 = .ok (.sipush 1123, 3) := by decide +kernel
theorem dX10_loadBy_40 : decode cX10_loadBy 40 = .ok (.iaload, 1) := by decide +kernel
theorem dX10_loadBy_41 : decode cX10_loadBy 41 = .ok (.imul, 1) := by decide +kernel
theorem dX10_loadBy_42 : decode cX10_loadBy 42 = .ok (.bipush 100, 2) := by decide +kernel
theorem dX10_loadBy_44 : decode cX10_loadBy 44 = .ok (.idiv, 1) := by decide +kernel
theorem dX10_loadBy_45 : decode cX10_loadBy 45 = .ok (.goto 4, 3) := by decide +kernel
theorem dX10_loadBy_48 : decode cX10_loadBy 48 = .ok (.iconst 0, 1) := by decide +kernel
theorem dX10_loadBy_49 : decode cX10_loadBy 49 = .ok (.iadd, 1) := by decide +kernel
theorem dX10_loadBy_50 : decode cX10_loadBy 50 = .ok (.ireturn, 1) := by decide +kernel
theorem dX10_part_0 : decode cX10_part 0 = .ok (.iload_n 0, 1) := by decide +kernel
theorem dX10_part_1 : decode cX10_part 1 = .ok (.i2l, 1) := by decide +kernel
theorem dX10_part_2 : decode cX10_part 2 = .ok (.iload_n 1, 1) := by decide +kernel
theorem dX10_part_3 : decode cX10_part 3 = .ok (.i2l, 1) := by decide +kernel
theorem dX10_part_4 : decode cX10_part 4 = .ok (.lmul, 1) := by decide +kernel
theorem dX10_part_5 : decode cX10_part 5 = .ok (.ldc2_w 323, 3) := by decide +kernel
theorem dX10_part_8 : decode cX10_part 8 = .ok (.ldiv, 1) := by decide +kernel
theorem dX10_part_9 : decode cX10_part 9 = .ok (.l2i, 1) := by decide +kernel
theorem dX10_part_10 : decode cX10_part 10 = .ok (.ireturn, 1) := by decide +kernel
theorem dX10_begins_0 : decode cX10_begins 0 = .ok (.aload_n 0, 1) := by decide +kernel
theorem dX10_begins_1 : decode cX10_begins 1 = .ok (.getfield 325, 3) := by decide +kernel
theorem dX10_begins_4 : decode cX10_begins 4 = .ok (.sipush 200, 3) := by decide +kernel
theorem dX10_begins_7 : decode cX10_begins 7 = .ok (.if_icmp .ne 4, 3) := by decide +kernel
theorem dX10_begins_10 : decode cX10_begins 10 = .ok (.return_, 1) := by decide +kernel
theorem dX10_begins_11 : decode cX10_begins 11 = .ok (.aload_n 0, 1) := by decide +kernel
theorem dX10_begins_12 : decode cX10_begins 12 = .ok (.getfield 90, 3) := by decide +kernel
theorem dX10_begins_15 : decode cX10_begins 15 = .ok (.aload_n 0, 1) := by decide +kernel
theorem dX10_begins_16 : decode cX10_begins 16 = .ok (.getfield 325, 3) := by decide +kernel
theorem dX10_begins_19 : decode cX10_begins 19 = .ok (.iload_n 1, 1) := by decide +kernel
theorem dX10_begins_20 : decode cX10_begins 20 = .ok (.iastore, 1) := by decide +kernel
theorem dX10_begins_21 : decode cX10_begins 21 = .ok (.aload_n 0, 1) := by decide +kernel
theorem dX10_begins_22 : decode cX10_begins 22 = .ok (.getfield 93, 3) := by decide +kernel
theorem dX10_begins_25 : decode cX10_begins 25 = .ok (.aload_n 0, 1) := by decide +kernel
theorem dX10_begins_26 : decode cX10_begins 26 = .ok (.getfield 325, 3) := by decide +kernel
theorem dX10_begins_29 : decode cX10_begins 29 = .ok (.iload_n 2, 1) := by decide +kernel
theorem dX10_begins_30 : decode cX10_begins 30 = .ok (.iastore, 1) := by decide +kernel
theorem dX10_begins_31 : decode cX10_begins 31 = .ok (.aload_n 0, 1) := by decide +kernel
theorem dX10_begins_32 : decode cX10_begins 32 = .ok (.getfield 96, 3) := by decide +kernel
theorem dX10_begins_35 : decode cX10_begins 35 = .ok (.aload_n 0, 1) := by decide +kernel
theorem dX10_begins_36 : decode cX10_begins 36 = .ok (.getfield 325, 3) := by decide +kernel
theorem dX10_begins_39 : decode cX10_begins 39 = .ok (.iload_n 3, 1) := by decide +kernel
theorem dX10_begins_40 : decode cX10_begins 40 = .ok (.iastore, 1) := by decide +kernel
theorem dX10_begins_41 : decode cX10_begins 41 = .ok (.aload_n 0, 1) := by decide +kernel
theorem dX10_begins_42 : decode cX10_begins 42 = .ok (.getfield 99, 3) := by decide +kernel
theorem dX10_begins_45 : decode cX10_begins 45 = .ok (.aload_n 0, 1) := by decide +kernel
theorem dX10_begins_46 : decode cX10_begins 46 = .ok (.getfield 325, 3) := by decide +kernel
theorem dX10_begins_49 : decode cX10_begins 49 = .ok (.iload 4, 2) := by decide +kernel
theorem dX10_begins_51 : decode cX10_begins 51 = .ok (.iastore, 1) := by decide +kernel
theorem dX10_begins_52 : decode cX10_begins 52 = .ok (.aload_n 0, 1) := by decide +kernel
theorem dX10_begins_53 : decode cX10_begins 53 = .ok (.getfield 102, 3) := by decide +kernel
theorem dX10_begins_56 : decode cX10_begins 56 = .ok (.aload_n 0, 1) := by decide +kernel
theorem dX10_begins_57 : decode cX10_begins 57 = .ok (.getfield 325, 3) := by decide +kernel
theorem dX10_begins_60 : decode cX10_begins 60 = .ok (.iload 5, 2) := by decide +kernel
theorem dX10_begins_62 : decode cX10_begins 62 = .ok (.ifCond .eq 7, 3) := by decide +kernel
theorem dX10_begins_65 : decode cX10_begins 65 = .ok (.iconst 1, 1) := by decide +kernel
theorem dX10_begins_66 : decode cX10_begins 66 = .ok (.goto 4, 3) := by decide +kernel
theorem dX10_begins_69 : decode cX10_begins 69 = .ok (.iconst 0, 1) := by decide +kernel
theorem dX10_begins_70 : decode cX10_begins 70 = .ok (.iastore, 1) := by decide +kernel
theorem dX10_begins_71 : decode cX10_begins 71 = .ok (.aload_n 0, 1) := by decide +kernel
theorem dX10_begins_72 : decode cX10_begins 72 = .ok (.getfield 105, 3) := by decide +kernel
theorem dX10_begins_75 : decode cX10_begins 75 = .ok (.aload_n 0, 1) := by decide +kernel
theorem dX10_begins_76 : decode cX10_begins 76 = .ok (.getfield 325, 3) := by decide +kernel
theorem dX10_begins_79 : decode cX10_begins 79 = .ok (.iconst 0, 1) := by decide +kernel
theorem dX10_begins_80 : decode cX10_begins 80 = .ok (.iastore, 1) := by decide +kernel
theorem dX10_begins_81 : decode cX10_begins 81 = .ok (.aload_n 0, 1) := by decide +kernel
theorem dX10_begins_82 : decode cX10_begins 82 = .ok (.getfield 108, 3) := by decide +kernel
theorem dX10_begins_85 : decode cX10_begins 85 = .ok (.aload_n 0, 1) := by decide +kernel
theorem dX10_begins_86 : decode cX10_begins 86 = .ok (.getfield 325, 3) := by decide +kernel
theorem dX10_begins_89 : decode cX10_begins 89 = .ok (.iload 4, 2) := by decide +kernel
theorem dX10_begins_91 : decode cX10_begins 91 = .ok (.iastore, 1) := by decide +kernel
theorem dX10_begins_92 : decode cX10_begins 92 = .ok (.aload_n 0, 1) := by decide +kernel
theorem dX10_begins_93 : decode cX10_begins 93 = .ok (.getfield 72, 3) := by decide +kernel
theorem dX10_begins_96 : decode cX10_begins 96 = .ok (.aload_n 0, 1) := by decide +kernel
theorem dX10_begins_97 : decode cX10_begins 97 = .ok (.getfield 325, 3) := by decide +kernel
theorem dX10_begins_100 : decode cX10_begins 100 = .ok (.iconst 1, 1) := by decide +kernel
theorem dX10_begins_101 : decode cX10_begins 101 = .ok (.bastore, 1) := by decide +kernel
theorem dX10_begins_102 : decode cX10_begins 102 = .ok (.aload_n 0, 1) := by decide +kernel
theorem dX10_begins_103 : decode cX10_begins 103 = .ok (.dup, 1) := by decide +kernel
theorem dX10_begins_104 : decode cX10_begins 104 = .ok (.getfield 325, 3) := by decide +kernel
theorem dX10_begins_107 : decode cX10_begins 107 = .ok (.iconst 1, 1) := by decide +kernel
theorem dX10_begins_108 : decode cX10_begins 108 = .ok (.iadd, 1) := by decide +kernel
theorem dX10_begins_109 : decode cX10_begins 109 = .ok (.putfield 325, 3) := by decide +kernel
theorem dX10_begins_112 : decode cX10_begins 112 = .ok (.return_, 1) := by decide +kernel
theorem dX10_breaks_0 : decode cX10_breaks 0 = .ok (.aload_n 0, 1) := by decide +kernel
theorem dX10_breaks_1 : decode cX10_breaks 1 = .ok (.getfield 66, 3) := by decide +kernel
theorem dX10_breaks_4 : decode cX10_breaks 4 = .ok (.iload_n 1, 1) := by decide +kernel
theorem dX10_breaks_5 : decode cX10_breaks 5 = .ok (.iconst 1, 1) := by decide +kernel
theorem dX10_breaks_6 : decode cX10_breaks 6 = .ok (.bastore, 1) := by decide +kernel
theorem dX10_breaks_7 : decode cX10_breaks 7 = .ok (.aload_n 0, 1) := by decide +kernel
theorem dX10_breaks_8 : decode cX10_breaks 8 = .ok (.getfield 75, 3) := by decide +kernel
theorem dX10_breaks_11 : decode cX10_breaks 11 = .ok (.aload_n 0, 1) := by decide +kernel
theorem dX10_breaks_12 : decode cX10_breaks 12 = .ok (.getfield 328, 3) := by decide +kernel
theorem dX10_breaks_15 : decode cX10_breaks 15 = .ok (.iload_n 1, 1) := by decide +kernel
theorem dX10_breaks_16 : decode cX10_breaks 16 = .ok (.iastore, 1) := by decide +kernel
theorem dX10_breaks_17 : decode cX10_breaks 17 = .ok (.aload_n 0, 1) := by decide +kernel
theorem dX10_breaks_18 : decode cX10_breaks 18 = .ok (.getfield 78, 3) := by decide +kernel
theorem dX10_breaks_21 : decode cX10_breaks 21 = .ok (.aload_n 0, 1) := by decide +kernel
theorem dX10_breaks_22 : decode cX10_breaks 22 = .ok (.getfield 328, 3) := by decide +kernel
theorem dX10_breaks_25 : decode cX10_breaks 25 = .ok (.iload_n 2, 1) := by decide +kernel
theorem dX10_breaks_26 : decode cX10_breaks 26 = .ok (.iastore, 1) := by decide +kernel
theorem dX10_breaks_27 : decode cX10_breaks 27 = .ok (.aload_n 0, 1) := by decide +kernel
theorem dX10_breaks_28 : decode cX10_breaks 28 = .ok (.getfield 81, 3) := by decide +kernel
theorem dX10_breaks_31 : decode cX10_breaks 31 = .ok (.aload_n 0, 1) := by decide +kernel
theorem dX10_breaks_32 : decode cX10_breaks 32 = .ok (.getfield 328, 3) := by decide +kernel
theorem dX10_breaks_35 : decode cX10_breaks 35 = .ok (.iload_n 3, 1) := by decide +kernel
theorem dX10_breaks_36 : decode cX10_breaks 36 = .ok (.ifCond .le 7, 3) := by decide +kernel
theorem dX10_breaks_39 : decode cX10_breaks 39 = .ok (.iload_n 3, 1) := by decide +kernel
theorem dX10_breaks_40 : decode cX10_breaks 40 = .ok (.goto 41, 3) := by decide +kernel
theorem dX10_breaks_43 : decode cX10_breaks 43 = .ok (.iload_n 1, 1) := by decide +kernel
theorem dX10_breaks_44 : decode cX10_breaks 44 = .ok (.ifCond .eq 13, 3) := by decide +kernel
theorem dX10_breaks_47 : decode cX10_breaks 47 = .ok (.iload_n 1, 1) := by decide +kernel
theorem dX10_breaks_48 : decode cX10_breaks 48 = .ok (.aload_n 0, 1) := by decide +kernel
theorem dX10_breaks_49 : decode cX10_breaks 49 = .ok (.getfield 267, 3) := by decide +kernel
theorem dX10_breaks_52 : decode cX10_breaks 52 = .ok (.iconst 1, 1) := by decide +kernel
theorem dX10_breaks_53 : decode cX10_breaks 53 = .ok (.isub, 1) := by decide +kernel
theorem dX10_breaks_54 : decode cX10_breaks 54 = .ok (.if_icmp .ne 7, 3) := by decide +kernel
theorem dX10_breaks_57 : decode cX10_breaks 57 = .ok (.iconst 3, 1) := by decide +kernel
theorem dX10_breaks_58 : decode cX10_breaks 58 = .ok (.goto 23, 3) := by decide +kernel
theorem dX10_breaks_61 : decode cX10_breaks 61 = .ok (.aload_n 0, 1) := by decide +kernel
theorem dX10_breaks_62 : decode cX10_breaks 62 = .ok (.getfield 48, 3) := by decide +kernel
theorem dX10_breaks_65 : decode cX10_breaks 65 = .ok (.iload_n 1, 1) := by decide +kernel
theorem dX10_breaks_66 : decode cX10_breaks 66 = .ok (.iaload, 1) := by decide +kernel
theorem dX10_breaks_67 : decode cX10_breaks 67 = .ok (.aload_n 0, 1) := by decide +kernel
theorem dX10_breaks_68 : decode cX10_breaks 68 = .ok (.getfield 36, 3) := by decide +kernel
theorem dX10_breaks_71 : decode cX10_breaks 71 = .ok (.iload_n 1, 1) := by decide +kernel
theorem dX10_breaks_72 : decode cX10_breaks 72 = .ok (.iaload, 1) := by decide +kernel
theorem dX10_breaks_73 : decode cX10_breaks 73 = .ok (.if_icmp .ge 7, 3) := by decide +kernel
theorem dX10_breaks_76 : decode cX10_breaks 76 = .ok (.iconst 4, 1) := by decide +kernel
theorem dX10_breaks_77 : decode cX10_breaks 77 = .ok (.goto 4, 3) := by decide +kernel
theorem dX10_breaks_80 : decode cX10_breaks 80 = .ok (.iconst 0, 1) := by decide +kernel
theorem dX10_breaks_81 : decode cX10_breaks 81 = .ok (.iastore, 1) := by decide +kernel
theorem dX10_breaks_82 : decode cX10_breaks 82 = .ok (.aload_n 0, 1) := by decide +kernel
theorem dX10_breaks_83 : decode cX10_breaks 83 = .ok (.getfield 84, 3) := by decide +kernel
theorem dX10_breaks_86 : decode cX10_breaks 86 = .ok (.aload_n 0, 1) := by decide +kernel
theorem dX10_breaks_87 : decode cX10_breaks 87 = .ok (.getfield 328, 3) := by decide +kernel
theorem dX10_breaks_90 : decode cX10_breaks 90 = .ok (.iload 4, 2) := by decide +kernel
theorem dX10_breaks_92 : decode cX10_breaks 92 = .ok (.iastore, 1) := by decide +kernel
theorem dX10_breaks_93 : decode cX10_breaks 93 = .ok (.aload_n 0, 1) := by decide +kernel
theorem dX10_breaks_94 : decode cX10_breaks 94 = .ok (.dup, 1) := by decide +kernel
theorem dX10_breaks_95 : decode cX10_breaks 95 = .ok (.getfield 328, 3) := by decide +kernel
theorem dX10_breaks_98 : decode cX10_breaks 98 = .ok (.iconst 1, 1) := by decide +kernel
theorem dX10_breaks_99 : decode cX10_breaks 99 = .ok (.iadd, 1) := by decide +kernel
theorem dX10_breaks_100 : decode cX10_breaks 100 = .ok (.putfield 328, 3) := by decide +kernel
theorem dX10_breaks_103 : decode cX10_breaks 103 = .ok (.iload 4, 2) := by decide +kernel
theorem dX10_breaks_105 : decode cX10_breaks 105 = .ok (.aload_n 0, 1) := by decide +kernel
theorem dX10_breaks_106 : decode cX10_breaks 106 = .ok (.getfield 17, 3) := by decide +kernel
theorem dX10_breaks_109 : decode cX10_breaks 109 = .ok (.sipush 1116, 3) := by decide +kernel
theorem dX10_breaks_112 : decode cX10_breaks 112 = .ok (.iaload, 1) := by decide +kernel
theorem dX10_breaks_113 : decode cX10_breaks 113 = .ok (.invokestatic 331, 3) := by decide +kernel
theorem dX10_breaks_116 : decode cX10_breaks 116 = .ok (.istore 5, 2) := by decide +kernel
theorem dX10_breaks_118 : decode cX10_breaks 118 = .ok (.iload 5, 2) := by decide +kernel
theorem dX10_breaks_120 : decode cX10_breaks 120 = .ok (.ldc_w 334, 3) := by decide +kernel
theorem dX10_breaks_123 : decode cX10_breaks 123 = .ok (.if_icmp .le 9, 3) := by decide +kernel
theorem dX10_breaks_126 : decode cX10_breaks 126 = .ok (.ldc_w 334, 3) := by decide +kernel
theorem dX10_breaks_129 : decode cX10_breaks 129 = .ok (.goto 5, 3) := by decide +kernel
theorem dX10_breaks_132 : decode cX10_breaks 132 = .ok (.iload 5, 2) := by decide +kernel
theorem dX10_breaks_134 : decode cX10_breaks 134 = .ok (.istore 5, 2) := by decide +kernel
theorem dX10_breaks_136 : decode cX10_breaks 136 = .ok (.aload_n 0, 1) := by decide +kernel
theorem dX10_breaks_137 : decode cX10_breaks 137 = .ok (.iload_n 1, 1) := by decide +kernel
theorem dX10_breaks_138 : decode cX10_breaks 138 = .ok (.iconst 0, 1) := by decide +kernel
theorem dX10_breaks_139 : decode cX10_breaks 139 = .ok (.iload_n 2, 1) := by decide +kernel
theorem dX10_breaks_140 : decode cX10_breaks 140 = .ok (.iload 5, 2) := by decide +kernel
theorem dX10_breaks_142 : decode cX10_breaks 142 = .ok (.iconst 0, 1) := by decide +kernel
theorem dX10_breaks_143 : decode cX10_breaks 143 = .ok (.invokevirtual 335, 3) := by decide +kernel
theorem dX10_breaks_146 : decode cX10_breaks 146 = .ok (.aload_n 0, 1) := by decide +kernel
theorem dX10_breaks_147 : decode cX10_breaks 147 = .ok (.iload_n 1, 1) := by decide +kernel
theorem dX10_breaks_148 : decode cX10_breaks 148 = .ok (.iconst 1, 1) := by decide +kernel
theorem dX10_breaks_149 : decode cX10_breaks 149 = .ok (.iload_n 2, 1) := by decide +kernel
theorem dX10_breaks_150 : decode cX10_breaks 150 = .ok (.iload 5, 2) := by decide +kernel
theorem dX10_breaks_152 : decode cX10_breaks 152 = .ok (.iconst 0, 1) := by decide +kernel
theorem dX10_breaks_153 : decode cX10_breaks 153 = .ok (.invokevirtual 335, 3) := by decide +kernel
theorem dX10_breaks_156 : decode cX10_breaks 156 = .ok (.return_, 1) := by decide +kernel
theorem dX10_stops_0 : decode cX10_stops 0 = .ok (.aload_n 0, 1) := by decide +kernel
theorem dX10_stops_1 : decode cX10_stops 1 = .ok (.getfield 72, 3) := by decide +kernel
theorem dX10_stops_4 : decode cX10_stops 4 = .ok (.iload_n 1, 1) := by decide +kernel
theorem dX10_stops_5 : decode cX10_stops 5 = .ok (.iconst 0, 1) := by decide +kernel
theorem dX10_stops_6 : decode cX10_stops 6 = .ok (.bastore, 1) := by decide +kernel
theorem dX10_stops_7 : decode cX10_stops 7 = .ok (.aload_n 0, 1) := by decide +kernel
theorem dX10_stops_8 : decode cX10_stops 8 = .ok (.getfield 102, 3) := by decide +kernel
theorem dX10_stops_11 : decode cX10_stops 11 = .ok (.iload_n 1, 1) := by decide +kernel
theorem dX10_stops_12 : decode cX10_stops 12 = .ok (.iaload, 1) := by decide +kernel
theorem dX10_stops_13 : decode cX10_stops 13 = .ok (.iconst 1, 1) := by decide +kernel
theorem dX10_stops_14 : decode cX10_stops 14 = .ok (.if_icmp .ne 4, 3) := by decide +kernel
theorem dX10_stops_17 : decode cX10_stops 17 = .ok (.return_, 1) := by decide +kernel
theorem dX10_stops_18 : decode cX10_stops 18 = .ok (.aload_n 0, 1) := by decide +kernel
theorem dX10_stops_19 : decode cX10_stops 19 = .ok (.getfield 108, 3) := by decide +kernel
theorem dX10_stops_22 : decode cX10_stops 22 = .ok (.iload_n 1, 1) := by decide +kernel
theorem dX10_stops_23 : decode cX10_stops 23 = .ok (.iaload, 1) := by decide +kernel
theorem dX10_stops_24 : decode cX10_stops 24 = .ok (.aload_n 0, 1) := by decide +kernel
theorem dX10_stops_25 : decode cX10_stops 25 = .ok (.getfield 17, 3) := by decide +kernel
theorem dX10_stops_28 : decode cX10_stops 28 = .ok (.sipush 1121, 3) := by decide +kernel
theorem dX10_stops_31 : decode cX10_stops 31 = .ok (.iaload, 1) := by decide +kernel
theorem dX10_stops_32 : decode cX10_stops 32 = .ok (.invokestatic 331, 3) := by decide +kernel
theorem dX10_stops_35 : decode cX10_stops 35 = .ok (.istore 4, 2) := by decide +kernel
theorem dX10_stops_37 : decode cX10_stops 37 = .ok (.iload 4, 2) := by decide +kernel
theorem dX10_stops_39 : decode cX10_stops 39 = .ok (.ifCond .le 20, 3) := by decide +kernel
theorem dX10_stops_42 : decode cX10_stops 42 = .ok (.aload_n 0, 1) := by decide +kernel
theorem dX10_stops_43 : decode cX10_stops 43 = .ok (.iload_n 2, 1) := by decide +kernel
theorem dX10_stops_44 : decode cX10_stops 44 = .ok (.iconst 1, 1) := by decide +kernel
theorem dX10_stops_45 : decode cX10_stops 45 = .ok (.aload_n 0, 1) := by decide +kernel
theorem dX10_stops_46 : decode cX10_stops 46 = .ok (.getfield 93, 3) := by decide +kernel
theorem dX10_stops_49 : decode cX10_stops 49 = .ok (.iload_n 1, 1) := by decide +kernel
theorem dX10_stops_50 : decode cX10_stops 50 = .ok (.iaload, 1) := by decide +kernel
theorem dX10_stops_51 : decode cX10_stops 51 = .ok (.isub, 1) := by decide +kernel
theorem dX10_stops_52 : decode cX10_stops 52 = .ok (.iload_n 3, 1) := by decide +kernel
theorem dX10_stops_53 : decode cX10_stops 53 = .ok (.iload 4, 2) := by decide +kernel
theorem dX10_stops_55 : decode cX10_stops 55 = .ok (.iconst 1, 1) := by decide +kernel
theorem dX10_stops_56 : decode cX10_stops 56 = .ok (.invokevirtual 335, 3) := by decide +kernel
theorem dX10_stops_59 : decode cX10_stops 59 = .ok (.return_, 1) := by decide +kernel
theorem dX10_comes_0 : decode cX10_comes 0 = .ok (.iload_n 2, 1) := by decide +kernel
theorem dX10_comes_1 : decode cX10_comes 1 = .ok (.aload_n 0, 1) := by decide +kernel
theorem dX10_comes_2 : decode cX10_comes 2 = .ok (.getfield 96, 3) := by decide +kernel
theorem dX10_comes_5 : decode cX10_comes 5 = .ok (.iload_n 1, 1) := by decide +kernel
theorem dX10_comes_6 : decode cX10_comes 6 = .ok (.iaload, 1) := by decide +kernel
theorem dX10_comes_7 : decode cX10_comes 7 = .ok (.isub, 1) := by decide +kernel
theorem dX10_comes_8 : decode cX10_comes 8 = .ok (.aload_n 0, 1) := by decide +kernel
theorem dX10_comes_9 : decode cX10_comes 9 = .ok (.getfield 17, 3) := by decide +kernel
theorem dX10_comes_12 : decode cX10_comes 12 = .ok (.sipush 1118, 3) := by decide +kernel
theorem dX10_comes_15 : decode cX10_comes 15 = .ok (.iaload, 1) := by decide +kernel
theorem dX10_comes_16 : decode cX10_comes 16 = .ok (.idiv, 1) := by decide +kernel
theorem dX10_comes_17 : decode cX10_comes 17 = .ok (.istore 4, 2) := by decide +kernel
theorem dX10_comes_19 : decode cX10_comes 19 = .ok (.aload_n 0, 1) := by decide +kernel
theorem dX10_comes_20 : decode cX10_comes 20 = .ok (.getfield 90, 3) := by decide +kernel
theorem dX10_comes_23 : decode cX10_comes 23 = .ok (.iload_n 1, 1) := by decide +kernel
theorem dX10_comes_24 : decode cX10_comes 24 = .ok (.iaload, 1) := by decide +kernel
theorem dX10_comes_25 : decode cX10_comes 25 = .ok (.aload_n 0, 1) := by decide +kernel
theorem dX10_comes_26 : decode cX10_comes 26 = .ok (.getfield 93, 3) := by decide +kernel
theorem dX10_comes_29 : decode cX10_comes 29 = .ok (.iload_n 1, 1) := by decide +kernel
theorem dX10_comes_30 : decode cX10_comes 30 = .ok (.iaload, 1) := by decide +kernel
theorem dX10_comes_31 : decode cX10_comes 31 = .ok (.ifCond .ne 9, 3) := by decide +kernel
theorem dX10_comes_34 : decode cX10_comes 34 = .ok (.iload 4, 2) := by decide +kernel
theorem dX10_comes_36 : decode cX10_comes 36 = .ok (.ineg, 1) := by decide +kernel
theorem dX10_comes_37 : decode cX10_comes 37 = .ok (.goto 5, 3) := by decide +kernel
theorem dX10_comes_40 : decode cX10_comes 40 = .ok (.iload 4, 2) := by decide +kernel
theorem dX10_comes_42 : decode cX10_comes 42 = .ok (.iadd, 1) := by decide +kernel
theorem dX10_comes_43 : decode cX10_comes 43 = .ok (.istore 5, 2) := by decide +kernel
theorem dX10_comes_45 : decode cX10_comes 45 = .ok (.iload 5, 2) := by decide +kernel
theorem dX10_comes_47 : decode cX10_comes 47 = .ok (.ifCond .lt 22, 3) := by decide +kernel
theorem dX10_comes_50 : decode cX10_comes 50 = .ok (.iload 5, 2) := by decide +kernel
theorem dX10_comes_52 : decode cX10_comes 52 = .ok (.aload_n 0, 1) := by decide +kernel
theorem dX10_comes_53 : decode cX10_comes 53 = .ok (.getfield 267, 3) := by decide +kernel
theorem dX10_comes_56 : decode cX10_comes 56 = .ok (.if_icmp .ge 13, 3) := by decide +kernel
theorem dX10_comes_59 : decode cX10_comes 59 = .ok (.aload_n 0, 1) := by decide +kernel
theorem dX10_comes_60 : decode cX10_comes 60 = .ok (.getfield 66, 3) := by decide +kernel
theorem dX10_comes_63 : decode cX10_comes 63 = .ok (.iload 5, 2) := by decide +kernel
theorem dX10_comes_65 : decode cX10_comes 65 = .ok (.baload, 1) := by decide +kernel
theorem dX10_comes_66 : decode cX10_comes 66 = .ok (.ifCond .eq 12, 3) := by decide +kernel
theorem dX10_comes_69 : decode cX10_comes 69 = .ok (.aload_n 0, 1) := by decide +kernel
theorem dX10_comes_70 : decode cX10_comes 70 = .ok (.iload_n 1, 1) := by decide +kernel
theorem dX10_comes_71 : decode cX10_comes 71 = .ok (.iload 5, 2) := by decide +kernel
theorem dX10_comes_73 : decode cX10_comes 73 = .ok (.iload_n 2, 1) := by decide +kernel
theorem dX10_comes_74 : decode cX10_comes 74 = .ok (.invokevirtual 339, 3) := by decide +kernel
theorem dX10_comes_77 : decode cX10_comes 77 = .ok (.return_, 1) := by decide +kernel
theorem dX10_comes_78 : decode cX10_comes 78 = .ok (.aload_n 0, 1) := by decide +kernel
theorem dX10_comes_79 : decode cX10_comes 79 = .ok (.getfield 42, 3) := by decide +kernel
theorem dX10_comes_82 : decode cX10_comes 82 = .ok (.iload 5, 2) := by decide +kernel
theorem dX10_comes_84 : decode cX10_comes 84 = .ok (.iaload, 1) := by decide +kernel
theorem dX10_comes_85 : decode cX10_comes 85 = .ok (.iconst 1, 1) := by decide +kernel
theorem dX10_comes_86 : decode cX10_comes 86 = .ok (.if_icmp .ne 12, 3) := by decide +kernel
theorem dX10_comes_89 : decode cX10_comes 89 = .ok (.aload_n 0, 1) := by decide +kernel
theorem dX10_comes_90 : decode cX10_comes 90 = .ok (.getfield 108, 3) := by decide +kernel
theorem dX10_comes_93 : decode cX10_comes 93 = .ok (.iload_n 1, 1) := by decide +kernel
theorem dX10_comes_94 : decode cX10_comes 94 = .ok (.iaload, 1) := by decide +kernel
theorem dX10_comes_95 : decode cX10_comes 95 = .ok (.goto 23, 3) := by decide +kernel
theorem dX10_comes_98 : decode cX10_comes 98 = .ok (.aload_n 0, 1) := by decide +kernel
theorem dX10_comes_99 : decode cX10_comes 99 = .ok (.getfield 108, 3) := by decide +kernel
theorem dX10_comes_102 : decode cX10_comes 102 = .ok (.iload_n 1, 1) := by decide +kernel
theorem dX10_comes_103 : decode cX10_comes 103 = .ok (.iaload, 1) := by decide +kernel
theorem dX10_comes_104 : decode cX10_comes 104 = .ok (.bipush 100, 2) := by decide +kernel
theorem dX10_comes_106 : decode cX10_comes 106 = .ok (.aload_n 0, 1) := by decide +kernel
theorem dX10_comes_107 : decode cX10_comes 107 = .ok (.getfield 17, 3) := by decide +kernel
theorem dX10_comes_110 : decode cX10_comes 110 = .ok (.sipush 1117, 3) := by decide +kernel
theorem dX10_comes_113 : decode cX10_comes 113 = .ok (.iaload, 1) := by decide +kernel
theorem dX10_comes_114 : decode cX10_comes 114 = .ok (.isub, 1) := by decide +kernel
theorem dX10_comes_115 : decode cX10_comes 115 = .ok (.invokestatic 331, 3) := by decide +kernel
theorem dX10_comes_118 : decode cX10_comes 118 = .ok (.istore 6, 2) := by decide +kernel
theorem dX10_comes_120 : decode cX10_comes 120 = .ok (.aload_n 0, 1) := by decide +kernel
theorem dX10_comes_121 : decode cX10_comes 121 = .ok (.getfield 42, 3) := by decide +kernel
theorem dX10_comes_124 : decode cX10_comes 124 = .ok (.iload 5, 2) := by decide +kernel
theorem dX10_comes_126 : decode cX10_comes 126 = .ok (.iaload, 1) := by decide +kernel
theorem dX10_comes_127 : decode cX10_comes 127 = .ok (.iconst 2, 1) := by decide +kernel
theorem dX10_comes_128 : decode cX10_comes 128 = .ok (.if_icmp .ne 19, 3) := by decide +kernel
theorem dX10_comes_131 : decode cX10_comes 131 = .ok (.iload 6, 2) := by decide +kernel
theorem dX10_comes_133 : decode cX10_comes 133 = .ok (.aload_n 0, 1) := by decide +kernel
theorem dX10_comes_134 : decode cX10_comes 134 = .ok (.getfield 17, 3) := by decide +kernel
theorem dX10_comes_137 : decode cX10_comes 137 = .ok (.sipush 1122, 3) := by decide +kernel
theorem dX10_comes_140 : decode cX10_comes 140 = .ok (.iaload, 1) := by decide +kernel
theorem dX10_comes_141 : decode cX10_comes 141 = .ok (.invokestatic 331, 3) := by decide +kernel
theorem dX10_comes_144 : decode cX10_comes 144 = .ok (.goto 5, 3) := by decide +kernel
theorem dX10_comes_147 : decode cX10_comes 147 = .ok (.iload 6, 2) := by decide +kernel
theorem dX10_comes_149 : decode cX10_comes 149 = .ok (.istore 6, 2) := by decide +kernel
theorem dX10_comes_151 : decode cX10_comes 151 = .ok (.aload_n 0, 1) := by decide +kernel
theorem dX10_comes_152 : decode cX10_comes 152 = .ok (.getfield 108, 3) := by decide +kernel
theorem dX10_comes_155 : decode cX10_comes 155 = .ok (.iload_n 1, 1) := by decide +kernel
theorem dX10_comes_156 : decode cX10_comes 156 = .ok (.iload 6, 2) := by decide +kernel
theorem dX10_comes_158 : decode cX10_comes 158 = .ok (.iastore, 1) := by decide +kernel
theorem dX10_comes_159 : decode cX10_comes 159 = .ok (.iload 6, 2) := by decide +kernel
theorem dX10_comes_161 : decode cX10_comes 161 = .ok (.ifCond .ne 11, 3) := by decide +kernel
theorem dX10_comes_164 : decode cX10_comes 164 = .ok (.aload_n 0, 1) := by decide +kernel
theorem dX10_comes_165 : decode cX10_comes 165 = .ok (.getfield 72, 3) := by decide +kernel
theorem dX10_comes_168 : decode cX10_comes 168 = .ok (.iload_n 1, 1) := by decide +kernel
theorem dX10_comes_169 : decode cX10_comes 169 = .ok (.iconst 0, 1) := by decide +kernel
theorem dX10_comes_170 : decode cX10_comes 170 = .ok (.bastore, 1) := by decide +kernel
theorem dX10_comes_171 : decode cX10_comes 171 = .ok (.return_, 1) := by decide +kernel
theorem dX10_comes_172 : decode cX10_comes 172 = .ok (.aload_n 0, 1) := by decide +kernel
theorem dX10_comes_173 : decode cX10_comes 173 = .ok (.getfield 105, 3) := by decide +kernel
theorem dX10_comes_176 : decode cX10_comes 176 = .ok (.iload_n 1, 1) := by decide +kernel
theorem dX10_comes_177 : decode cX10_comes 177 = .ok (.dup2, 1) := by decide +kernel
theorem dX10_comes_178 : decode cX10_comes 178 = .ok (.iaload, 1) := by decide +kernel
theorem dX10_comes_179 : decode cX10_comes 179 = .ok (.iconst 1, 1) := by decide +kernel
theorem dX10_comes_180 : decode cX10_comes 180 = .ok (.iadd, 1) := by decide +kernel
theorem dX10_comes_181 : decode cX10_comes 181 = .ok (.iastore, 1) := by decide +kernel
theorem dX10_comes_182 : decode cX10_comes 182 = .ok (.aload_n 0, 1) := by decide +kernel
theorem dX10_comes_183 : decode cX10_comes 183 = .ok (.iload 5, 2) := by decide +kernel
theorem dX10_comes_185 : decode cX10_comes 185 = .ok (.invokevirtual 343, 3) := by decide +kernel
theorem dX10_comes_188 : decode cX10_comes 188 = .ok (.iload 6, 2) := by decide +kernel
theorem dX10_comes_190 : decode cX10_comes 190 = .ok (.iadd, 1) := by decide +kernel
theorem dX10_comes_191 : decode cX10_comes 191 = .ok (.istore 7, 2) := by decide +kernel
theorem dX10_comes_193 : decode cX10_comes 193 = .ok (.aload_n 0, 1) := by decide +kernel
theorem dX10_comes_194 : decode cX10_comes 194 = .ok (.getfield 17, 3) := by decide +kernel
theorem dX10_comes_197 : decode cX10_comes 197 = .ok (.sipush 1119, 3) := by decide +kernel
theorem dX10_comes_200 : decode cX10_comes 200 = .ok (.iaload, 1) := by decide +kernel
theorem dX10_comes_201 : decode cX10_comes 201 = .ok (.aload_n 0, 1) := by decide +kernel
theorem dX10_comes_202 : decode cX10_comes 202 = .ok (.getfield 17, 3) := by decide +kernel
theorem dX10_comes_205 : decode cX10_comes 205 = .ok (.sipush 1118, 3) := by decide +kernel
theorem dX10_comes_208 : decode cX10_comes 208 = .ok (.iaload, 1) := by decide +kernel
theorem dX10_comes_209 : decode cX10_comes 209 = .ok (.if_icmp .gt 18, 3) := by decide +kernel
theorem dX10_comes_212 : decode cX10_comes 212 = .ok (.iload_n 3, 1) := by decide +kernel
theorem dX10_comes_213 : decode cX10_comes 213 = .ok (.aload_n 0, 1) := by decide +kernel
theorem dX10_comes_214 : decode cX10_comes 214 = .ok (.getfield 17, 3) := by decide +kernel
theorem dX10_comes_217 : decode cX10_comes 217 = .ok (.sipush 1120, 3) := by decide +kernel
theorem dX10_comes_220 : decode cX10_comes 220 = .ok (.iaload, 1) := by decide +kernel
theorem dX10_comes_221 : decode cX10_comes 221 = .ok (.invokestatic 331, 3) := by decide +kernel
theorem dX10_comes_224 : decode cX10_comes 224 = .ok (.goto 4, 3) := by decide +kernel
theorem dX10_comes_227 : decode cX10_comes 227 = .ok (.iconst 0, 1) := by decide +kernel
theorem dX10_comes_228 : decode cX10_comes 228 = .ok (.istore 8, 2) := by decide +kernel
theorem dX10_comes_230 : decode cX10_comes 230 = .ok (.aload_n 0, 1) := by decide +kernel
theorem dX10_comes_231 : decode cX10_comes 231 = .ok (.getfield 346, 3) := by decide +kernel
theorem dX10_comes_234 : decode cX10_comes 234 = .ok (.ifCond .eq 13, 3) := by decide +kernel
theorem dX10_comes_237 : decode cX10_comes 237 = .ok (.aload_n 0, 1) := by decide +kernel
theorem dX10_comes_238 : decode cX10_comes 238 = .ok (.iload_n 1, 1) := by decide +kernel
theorem dX10_comes_239 : decode cX10_comes 239 = .ok (.iload 5, 2) := by decide +kernel
theorem dX10_comes_241 : decode cX10_comes 241 = .ok (.iload 7, 2) := by decide +kernel
theorem dX10_comes_243 : decode cX10_comes 243 = .ok (.invokevirtual 350, 3) := by decide +kernel
theorem dX10_comes_246 : decode cX10_comes 246 = .ok (.return_, 1) := by decide +kernel
theorem dX10_comes_247 : decode cX10_comes 247 = .ok (.iload 7, 2) := by decide +kernel
theorem dX10_comes_249 : decode cX10_comes 249 = .ok (.iload 8, 2) := by decide +kernel
theorem dX10_comes_251 : decode cX10_comes 251 = .ok (.isub, 1) := by decide +kernel
theorem dX10_comes_252 : decode cX10_comes 252 = .ok (.aload_n 0, 1) := by decide +kernel
theorem dX10_comes_253 : decode cX10_comes 253 = .ok (.getfield 48, 3) := by decide +kernel
theorem dX10_comes_256 : decode cX10_comes 256 = .ok (.iload 5, 2) := by decide +kernel
theorem dX10_comes_258 : decode cX10_comes 258 = .ok (.iaload, 1) := by decide +kernel
theorem dX10_comes_259 : decode cX10_comes 259 = .ok (.if_icmp .le 31, 3) := by decide +kernel
theorem dX10_comes_262 : decode cX10_comes 262 = .ok (.aload_n 0, 1) := by decide +kernel
theorem dX10_comes_263 : decode cX10_comes 263 = .ok (.getfield 72, 3) := by decide +kernel
theorem dX10_comes_266 : decode cX10_comes 266 = .ok (.iload_n 1, 1) := by decide +kernel
theorem dX10_comes_267 : decode cX10_comes 267 = .ok (.iconst 0, 1) := by decide +kernel
theorem dX10_comes_268 : decode cX10_comes 268 = .ok (.bastore, 1) := by decide +kernel
theorem dX10_comes_269 : decode cX10_comes 269 = .ok (.aload_n 0, 1) := by decide +kernel
theorem dX10_comes_270 : decode cX10_comes 270 = .ok (.iload 5, 2) := by decide +kernel
theorem dX10_comes_272 : decode cX10_comes 272 = .ok (.iload_n 2, 1) := by decide +kernel
theorem dX10_comes_273 : decode cX10_comes 273 = .ok (.iconst 1, 1) := by decide +kernel
theorem dX10_comes_274 : decode cX10_comes 274 = .ok (.aload_n 0, 1) := by decide +kernel
theorem dX10_comes_275 : decode cX10_comes 275 = .ok (.getfield 102, 3) := by decide +kernel
theorem dX10_comes_278 : decode cX10_comes 278 = .ok (.iload_n 1, 1) := by decide +kernel
theorem dX10_comes_279 : decode cX10_comes 279 = .ok (.iaload, 1) := by decide +kernel
theorem dX10_comes_280 : decode cX10_comes 280 = .ok (.iadd, 1) := by decide +kernel
theorem dX10_comes_281 : decode cX10_comes 281 = .ok (.iload 7, 2) := by decide +kernel
theorem dX10_comes_283 : decode cX10_comes 283 = .ok (.iload 8, 2) := by decide +kernel
theorem dX10_comes_285 : decode cX10_comes 285 = .ok (.isub, 1) := by decide +kernel
theorem dX10_comes_286 : decode cX10_comes 286 = .ok (.invokevirtual 353, 3) := by decide +kernel
theorem dX10_comes_289 : decode cX10_comes 289 = .ok (.return_, 1) := by decide +kernel
theorem dX10_comes_290 : decode cX10_comes 290 = .ok (.aload_n 0, 1) := by decide +kernel
theorem dX10_comes_291 : decode cX10_comes 291 = .ok (.dup, 1) := by decide +kernel
theorem dX10_comes_292 : decode cX10_comes 292 = .ok (.getfield 356, 3) := by decide +kernel
theorem dX10_comes_295 : decode cX10_comes 295 = .ok (.iload 7, 2) := by decide +kernel
theorem dX10_comes_297 : decode cX10_comes 297 = .ok (.aload_n 0, 1) := by decide +kernel
theorem dX10_comes_298 : decode cX10_comes 298 = .ok (.getfield 48, 3) := by decide +kernel
theorem dX10_comes_301 : decode cX10_comes 301 = .ok (.iload 5, 2) := by decide +kernel
theorem dX10_comes_303 : decode cX10_comes 303 = .ok (.iaload, 1) := by decide +kernel
theorem dX10_comes_304 : decode cX10_comes 304 = .ok (.if_icmp .le 7, 3) := by decide +kernel
theorem dX10_comes_307 : decode cX10_comes 307 = .ok (.iconst 1, 1) := by decide +kernel
theorem dX10_comes_308 : decode cX10_comes 308 = .ok (.goto 4, 3) := by decide +kernel
theorem dX10_comes_311 : decode cX10_comes 311 = .ok (.iconst 0, 1) := by decide +kernel
theorem dX10_comes_312 : decode cX10_comes 312 = .ok (.iadd, 1) := by decide +kernel
theorem dX10_comes_313 : decode cX10_comes 313 = .ok (.putfield 356, 3) := by decide +kernel
theorem dX10_comes_316 : decode cX10_comes 316 = .ok (.aload_n 0, 1) := by decide +kernel
theorem dX10_comes_317 : decode cX10_comes 317 = .ok (.getfield 69, 3) := by decide +kernel
theorem dX10_comes_320 : decode cX10_comes 320 = .ok (.iload 5, 2) := by decide +kernel
theorem dX10_comes_322 : decode cX10_comes 322 = .ok (.iconst 1, 1) := by decide +kernel
theorem dX10_comes_323 : decode cX10_comes 323 = .ok (.bastore, 1) := by decide +kernel
theorem dX10_comes_324 : decode cX10_comes 324 = .ok (.return_, 1) := by decide +kernel
theorem dX10_looks_0 : decode cX10_looks 0 = .ok (.aload_n 0, 1) := by decide +kernel
theorem dX10_looks_1 : decode cX10_looks 1 = .ok (.getfield 102, 3) := by decide +kernel
theorem dX10_looks_4 : decode cX10_looks 4 = .ok (.iload_n 1, 1) := by decide +kernel
theorem dX10_looks_5 : decode cX10_looks 5 = .ok (.iaload, 1) := by decide +kernel
theorem dX10_looks_6 : decode cX10_looks 6 = .ok (.iconst 1, 1) := by decide +kernel
theorem dX10_looks_7 : decode cX10_looks 7 = .ok (.if_icmp .ne 4, 3) := by decide +kernel
theorem dX10_looks_10 : decode cX10_looks 10 = .ok (.return_, 1) := by decide +kernel
theorem dX10_looks_11 : decode cX10_looks 11 = .ok (.aload_n 0, 1) := by decide +kernel
theorem dX10_looks_12 : decode cX10_looks 12 = .ok (.getfield 359, 3) := by decide +kernel
theorem dX10_looks_15 : decode cX10_looks 15 = .ok (.iconst (-1), 1) := by decide +kernel
theorem dX10_looks_16 : decode cX10_looks 16 = .ok (.if_icmp .eq 28, 3) := by decide +kernel
theorem dX10_looks_19 : decode cX10_looks 19 = .ok (.iload_n 3, 1) := by decide +kernel
theorem dX10_looks_20 : decode cX10_looks 20 = .ok (.aload_n 0, 1) := by decide +kernel
theorem dX10_looks_21 : decode cX10_looks 21 = .ok (.getfield 362, 3) := by decide +kernel
theorem dX10_looks_24 : decode cX10_looks 24 = .ok (.if_icmp .lt 19, 3) := by decide +kernel
theorem dX10_looks_27 : decode cX10_looks 27 = .ok (.iload_n 3, 1) := by decide +kernel
theorem dX10_looks_28 : decode cX10_looks 28 = .ok (.aload_n 0, 1) := by decide +kernel
theorem dX10_looks_29 : decode cX10_looks 29 = .ok (.getfield 362, 3) := by decide +kernel
theorem dX10_looks_32 : decode cX10_looks 32 = .ok (.if_icmp .ne 12, 3) := by decide +kernel
theorem dX10_looks_35 : decode cX10_looks 35 = .ok (.iload_n 2, 1) := by decide +kernel
theorem dX10_looks_36 : decode cX10_looks 36 = .ok (.aload_n 0, 1) := by decide +kernel
theorem dX10_looks_37 : decode cX10_looks 37 = .ok (.getfield 359, 3) := by decide +kernel
theorem dX10_looks_40 : decode cX10_looks 40 = .ok (.if_icmp .le 4, 3) := by decide +kernel
theorem dX10_looks_43 : decode cX10_looks 43 = .ok (.return_, 1) := by decide +kernel
theorem dX10_looks_44 : decode cX10_looks 44 = .ok (.aload_n 0, 1) := by decide +kernel
theorem dX10_looks_45 : decode cX10_looks 45 = .ok (.iload_n 3, 1) := by decide +kernel
theorem dX10_looks_46 : decode cX10_looks 46 = .ok (.putfield 362, 3) := by decide +kernel
theorem dX10_looks_49 : decode cX10_looks 49 = .ok (.aload_n 0, 1) := by decide +kernel
theorem dX10_looks_50 : decode cX10_looks 50 = .ok (.iload_n 2, 1) := by decide +kernel
theorem dX10_looks_51 : decode cX10_looks 51 = .ok (.putfield 359, 3) := by decide +kernel
theorem dX10_looks_54 : decode cX10_looks 54 = .ok (.aload_n 0, 1) := by decide +kernel
theorem dX10_looks_55 : decode cX10_looks 55 = .ok (.iload_n 3, 1) := by decide +kernel
theorem dX10_looks_56 : decode cX10_looks 56 = .ok (.aload_n 0, 1) := by decide +kernel
theorem dX10_looks_57 : decode cX10_looks 57 = .ok (.getfield 48, 3) := by decide +kernel
theorem dX10_looks_60 : decode cX10_looks 60 = .ok (.iload_n 2, 1) := by decide +kernel
theorem dX10_looks_61 : decode cX10_looks 61 = .ok (.iaload, 1) := by decide +kernel
theorem dX10_looks_62 : decode cX10_looks 62 = .ok (.isub, 1) := by decide +kernel
theorem dX10_looks_63 : decode cX10_looks 63 = .ok (.putfield 365, 3) := by decide +kernel
theorem dX10_looks_66 : decode cX10_looks 66 = .ok (.return_, 1) := by decide +kernel
theorem dX10_isGoing_0 : decode cX10_isGoing 0 = .ok (.iconst 0, 1) := by decide +kernel
theorem dX10_isGoing_1 : decode cX10_isGoing 1 = .ok (.istore_n 1, 1) := by decide +kernel
theorem dX10_isGoing_2 : decode cX10_isGoing 2 = .ok (.iload_n 1, 1) := by decide +kernel
theorem dX10_isGoing_3 : decode cX10_isGoing 3 = .ok (.aload_n 0, 1) := by decide +kernel
theorem dX10_isGoing_4 : decode cX10_isGoing 4 = .ok (.getfield 325, 3) := by decide +kernel
theorem dX10_isGoing_7 : decode cX10_isGoing 7 = .ok (.if_icmp .ge 20, 3) := by decide +kernel
theorem dX10_isGoing_10 : decode cX10_isGoing 10 = .ok (.aload_n 0, 1) := by decide +kernel
theorem dX10_isGoing_11 : decode cX10_isGoing 11 = .ok (.getfield 72, 3) := by decide +kernel
theorem dX10_isGoing_14 : decode cX10_isGoing 14 = .ok (.iload_n 1, 1) := by decide +kernel
theorem dX10_isGoing_15 : decode cX10_isGoing 15 = .ok (.baload, 1) := by decide +kernel
