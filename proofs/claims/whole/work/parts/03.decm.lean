theorem dX6_init_0 : decode cX6_init 0 = .ok (.aload_n 0, 1) := by decide +kernel
theorem dX6_init_1 : decode cX6_init 1 = .ok (.invokespecial 5, 3) := by decide +kernel
theorem dX6_init_4 : decode cX6_init 4 = .ok (.aload_n 0, 1) := by decide +kernel
theorem dX6_init_5 : decode cX6_init 5 = .ok (.iconst (-1), 1) := by decide +kernel
theorem dX6_init_6 : decode cX6_init 6 = .ok (.putfield 11, 3) := by decide +kernel
theorem dX6_init_9 : decode cX6_init 9 = .ok (.aload_n 0, 1) := by decide +kernel
theorem dX6_init_10 : decode cX6_init 10 = .ok (.sipush 500, 3) := by decide +kernel
theorem dX6_init_13 : decode cX6_init 13 = .ok (.newarray .int, 2) := by decide +kernel
theorem dX6_init_15 : decode cX6_init 15 = .ok (.putfield 15, 3) := by decide +kernel
theorem dX6_init_18 : decode cX6_init 18 = .ok (.aload_n 0, 1) := by decide +kernel
theorem dX6_init_19 : decode cX6_init 19 = .ok (.bipush 12, 2) := by decide +kernel
theorem dX6_init_21 : decode cX6_init 21 = .ok (.newarray .long, 2) := by decide +kernel
theorem dX6_init_23 : decode cX6_init 23 = .ok (.putfield 19, 3) := by decide +kernel
theorem dX6_init_26 : decode cX6_init 26 = .ok (.aload_n 0, 1) := by decide +kernel
theorem dX6_init_27 : decode cX6_init 27 = .ok (.bipush 6, 2) := by decide +kernel
theorem dX6_init_29 : decode cX6_init 29 = .ok (.newarray .long, 2) := by decide +kernel
theorem dX6_init_31 : decode cX6_init 31 = .ok (.putfield 23, 3) := by decide +kernel
theorem dX6_init_34 : decode cX6_init 34 = .ok (.aload_n 0, 1) := by decide +kernel
theorem dX6_init_35 : decode cX6_init 35 = .ok (.bipush 6, 2) := by decide +kernel
theorem dX6_init_37 : decode cX6_init 37 = .ok (.newarray .long, 2) := by decide +kernel
theorem dX6_init_39 : decode cX6_init 39 = .ok (.putfield 26, 3) := by decide +kernel
theorem dX6_init_42 : decode cX6_init 42 = .ok (.aload_n 0, 1) := by decide +kernel
theorem dX6_init_43 : decode cX6_init 43 = .ok (.bipush 12, 2) := by decide +kernel
theorem dX6_init_45 : decode cX6_init 45 = .ok (.newarray .int, 2) := by decide +kernel
theorem dX6_init_47 : decode cX6_init 47 = .ok (.putfield 29, 3) := by decide +kernel
theorem dX6_init_50 : decode cX6_init 50 = .ok (.aload_n 0, 1) := by decide +kernel
theorem dX6_init_51 : decode cX6_init 51 = .ok (.bipush 12, 2) := by decide +kernel
theorem dX6_init_53 : decode cX6_init 53 = .ok (.newarray .int, 2) := by decide +kernel
theorem dX6_init_55 : decode cX6_init 55 = .ok (.putfield 32, 3) := by decide +kernel
theorem dX6_init_58 : decode cX6_init 58 = .ok (.aload_n 0, 1) := by decide +kernel
theorem dX6_init_59 : decode cX6_init 59 = .ok (.bipush 72, 2) := by decide +kernel
theorem dX6_init_61 : decode cX6_init 61 = .ok (.newarray .int, 2) := by decide +kernel
theorem dX6_init_63 : decode cX6_init 63 = .ok (.putfield 35, 3) := by decide +kernel
theorem dX6_init_66 : decode cX6_init 66 = .ok (.aload_n 0, 1) := by decide +kernel
theorem dX6_init_67 : decode cX6_init 67 = .ok (.bipush 6, 2) := by decide +kernel
theorem dX6_init_69 : decode cX6_init 69 = .ok (.newarray .int, 2) := by decide +kernel
theorem dX6_init_71 : decode cX6_init 71 = .ok (.putfield 38, 3) := by decide +kernel
theorem dX6_init_74 : decode cX6_init 74 = .ok (.aload_n 0, 1) := by decide +kernel
theorem dX6_init_75 : decode cX6_init 75 = .ok (.bipush 25, 2) := by decide +kernel
theorem dX6_init_77 : decode cX6_init 77 = .ok (.newarray .int, 2) := by decide +kernel
theorem dX6_init_79 : decode cX6_init 79 = .ok (.putfield 41, 3) := by decide +kernel
theorem dX6_init_82 : decode cX6_init 82 = .ok (.aload_n 0, 1) := by decide +kernel
theorem dX6_init_83 : decode cX6_init 83 = .ok (.bipush 25, 2) := by decide +kernel
theorem dX6_init_85 : decode cX6_init 85 = .ok (.newarray .int, 2) := by decide +kernel
theorem dX6_init_87 : decode cX6_init 87 = .ok (.putfield 44, 3) := by decide +kernel
theorem dX6_init_90 : decode cX6_init 90 = .ok (.aload_n 0, 1) := by decide +kernel
theorem dX6_init_91 : decode cX6_init 91 = .ok (.sipush 150, 3) := by decide +kernel
theorem dX6_init_94 : decode cX6_init 94 = .ok (.newarray .int, 2) := by decide +kernel
theorem dX6_init_96 : decode cX6_init 96 = .ok (.putfield 47, 3) := by decide +kernel
theorem dX6_init_99 : decode cX6_init 99 = .ok (.aload_n 0, 1) := by decide +kernel
theorem dX6_init_100 : decode cX6_init 100 = .ok (.bipush 25, 2) := by decide +kernel
theorem dX6_init_102 : decode cX6_init 102 = .ok (.newarray .int, 2) := by decide +kernel
theorem dX6_init_104 : decode cX6_init 104 = .ok (.putfield 50, 3) := by decide +kernel
theorem dX6_init_107 : decode cX6_init 107 = .ok (.aload_n 0, 1) := by decide +kernel
theorem dX6_init_108 : decode cX6_init 108 = .ok (.bipush 25, 2) := by decide +kernel
theorem dX6_init_110 : decode cX6_init 110 = .ok (.newarray .int, 2) := by decide +kernel
theorem dX6_init_112 : decode cX6_init 112 = .ok (.putfield 53, 3) := by decide +kernel
theorem dX6_init_115 : decode cX6_init 115 = .ok (.aload_n 0, 1) := by decide +kernel
theorem dX6_init_116 : decode cX6_init 116 = .ok (.sipush 150, 3) := by decide +kernel
theorem dX6_init_119 : decode cX6_init 119 = .ok (.newarray .int, 2) := by decide +kernel
theorem dX6_init_121 : decode cX6_init 121 = .ok (.putfield 56, 3) := by decide +kernel
theorem dX6_init_124 : decode cX6_init 124 = .ok (.aload_n 0, 1) := by decide +kernel
theorem dX6_init_125 : decode cX6_init 125 = .ok (.bipush 6, 2) := by decide +kernel
theorem dX6_init_127 : decode cX6_init 127 = .ok (.newarray .int, 2) := by decide +kernel
theorem dX6_init_129 : decode cX6_init 129 = .ok (.putfield 59, 3) := by decide +kernel
theorem dX6_init_132 : decode cX6_init 132 = .ok (.aload_n 0, 1) := by decide +kernel
theorem dX6_init_133 : decode cX6_init 133 = .ok (.bipush 8, 2) := by decide +kernel
theorem dX6_init_135 : decode cX6_init 135 = .ok (.newarray .int, 2) := by decide +kernel
theorem dX6_init_137 : decode cX6_init 137 = .ok (.putfield 62, 3) := by decide +kernel
theorem dX6_init_140 : decode cX6_init 140 = .ok (.aload_n 0, 1) := by decide +kernel
theorem dX6_init_141 : decode cX6_init 141 = .ok (.sipush 200, 3) := by decide +kernel
theorem dX6_init_144 : decode cX6_init 144 = .ok (.newarray .int, 2) := by decide +kernel
theorem dX6_init_146 : decode cX6_init 146 = .ok (.putfield 65, 3) := by decide +kernel
theorem dX6_init_149 : decode cX6_init 149 = .ok (.aload_n 0, 1) := by decide +kernel
theorem dX6_init_150 : decode cX6_init 150 = .ok (.sipush 200, 3) := by decide +kernel
theorem dX6_init_153 : decode cX6_init 153 = .ok (.newarray .int, 2) := by decide +kernel
theorem dX6_init_155 : decode cX6_init 155 = .ok (.putfield 68, 3) := by decide +kernel
theorem dX6_init_158 : decode cX6_init 158 = .ok (.aload_n 0, 1) := by decide +kernel
theorem dX6_init_159 : decode cX6_init 159 = .ok (.sipush 1200, 3) := by decide +kernel
theorem dX6_init_162 : decode cX6_init 162 = .ok (.newarray .int, 2) := by decide +kernel
theorem dX6_init_164 : decode cX6_init 164 = .ok (.putfield 71, 3) := by decide +kernel
theorem dX6_init_167 : decode cX6_init 167 = .ok (.aload_n 0, 1) := by decide +kernel
theorem dX6_init_168 : decode cX6_init 168 = .ok (.bipush 25, 2) := by decide +kernel
theorem dX6_init_170 : decode cX6_init 170 = .ok (.newarray .int, 2) := by decide +kernel
theorem dX6_init_172 : decode cX6_init 172 = .ok (.putfield 74, 3) := by decide +kernel
theorem dX6_init_175 : decode cX6_init 175 = .ok (.return_, 1) := by decide +kernel
theorem dX6_thrown_0 : decode cX6_thrown 0 = .ok (.aload_n 0, 1) := by decide +kernel
theorem dX6_thrown_1 : decode cX6_thrown 1 = .ok (.getfield 77, 3) := by decide +kernel
theorem dX6_thrown_4 : decode cX6_thrown 4 = .ok (.ireturn, 1) := by decide +kernel
theorem dX6_refused_0 : decode cX6_refused 0 = .ok (.aload_n 0, 1) := by decide +kernel
theorem dX6_refused_1 : decode cX6_refused 1 = .ok (.iload_n 1, 1) := by decide +kernel
theorem dX6_refused_2 : decode cX6_refused 2 = .ok (.putfield 80, 3) := by decide +kernel
theorem dX6_refused_5 : decode cX6_refused 5 = .ok (.aload_n 0, 1) := by decide +kernel
theorem dX6_refused_6 : decode cX6_refused 6 = .ok (.iconst (-1), 1) := by decide +kernel
theorem dX6_refused_7 : decode cX6_refused 7 = .ok (.putfield 11, 3) := by decide +kernel
theorem dX6_refused_10 : decode cX6_refused 10 = .ok (.iconst (-1), 1) := by decide +kernel
theorem dX6_refused_11 : decode cX6_refused 11 = .ok (.ireturn, 1) := by decide +kernel
theorem dX6_lost_0 : decode cX6_lost 0 = .ok (.aload_n 0, 1) := by decide +kernel
theorem dX6_lost_1 : decode cX6_lost 1 = .ok (.iload_n 1, 1) := by decide +kernel
theorem dX6_lost_2 : decode cX6_lost 2 = .ok (.putfield 80, 3) := by decide +kernel
theorem dX6_lost_5 : decode cX6_lost 5 = .ok (.aload_n 0, 1) := by decide +kernel
theorem dX6_lost_6 : decode cX6_lost 6 = .ok (.iconst (-1), 1) := by decide +kernel
theorem dX6_lost_7 : decode cX6_lost 7 = .ok (.putfield 11, 3) := by decide +kernel
theorem dX6_lost_10 : decode cX6_lost 10 = .ok (.ldc2_w 83, 3) := by decide +kernel
theorem dX6_lost_13 : decode cX6_lost 13 = .ok (.lreturn, 1) := by decide +kernel
theorem dX6_good_0 : decode cX6_good 0 = .ok (.aload_n 0, 1) := by decide +kernel
theorem dX6_good_1 : decode cX6_good 1 = .ok (.iconst 0, 1) := by decide +kernel
theorem dX6_good_2 : decode cX6_good 2 = .ok (.putfield 80, 3) := by decide +kernel
theorem dX6_good_5 : decode cX6_good 5 = .ok (.aload_n 0, 1) := by decide +kernel
theorem dX6_good_6 : decode cX6_good 6 = .ok (.iconst (-1), 1) := by decide +kernel
theorem dX6_good_7 : decode cX6_good 7 = .ok (.putfield 11, 3) := by decide +kernel
theorem dX6_good_10 : decode cX6_good 10 = .ok (.iload_n 1, 1) := by decide +kernel
theorem dX6_good_11 : decode cX6_good 11 = .ok (.ireturn, 1) := by decide +kernel
theorem dX6_told_0 : decode cX6_told 0 = .ok (.aload_n 0, 1) := by decide +kernel
theorem dX6_told_1 : decode cX6_told 1 = .ok (.iconst 0, 1) := by decide +kernel
theorem dX6_told_2 : decode cX6_told 2 = .ok (.putfield 80, 3) := by decide +kernel
theorem dX6_told_5 : decode cX6_told 5 = .ok (.aload_n 0, 1) := by decide +kernel
theorem dX6_told_6 : decode cX6_told 6 = .ok (.iconst (-1), 1) := by decide +kernel
theorem dX6_told_7 : decode cX6_told 7 = .ok (.putfield 11, 3) := by decide +kernel
theorem dX6_told_10 : decode cX6_told 10 = .ok (.lload_n 1, 1) := by decide +kernel
theorem dX6_told_11 : decode cX6_told 11 = .ok (.lreturn, 1) := by decide +kernel
theorem dX6_done_0 : decode cX6_done 0 = .ok (.aload_n 0, 1) := by decide +kernel
theorem dX6_done_1 : decode cX6_done 1 = .ok (.iload_n 1, 1) := by decide +kernel
theorem dX6_done_2 : decode cX6_done 2 = .ok (.putfield 80, 3) := by decide +kernel
theorem dX6_done_5 : decode cX6_done 5 = .ok (.aload_n 0, 1) := by decide +kernel
theorem dX6_done_6 : decode cX6_done 6 = .ok (.iconst (-1), 1) := by decide +kernel
theorem dX6_done_7 : decode cX6_done 7 = .ok (.putfield 11, 3) := by decide +kernel
theorem dX6_done_10 : decode cX6_done 10 = .ok (.iload_n 1, 1) := by decide +kernel
theorem dX6_done_11 : decode cX6_done 11 = .ok (.ifCond .ne 7, 3) := by decide +kernel
theorem dX6_done_14 : decode cX6_done 14 = .ok (.iconst 1, 1) := by decide +kernel
theorem dX6_done_15 : decode cX6_done 15 = .ok (.goto 4, 3) := by decide +kernel
theorem dX6_done_18 : decode cX6_done 18 = .ok (.iconst 0, 1) := by decide +kernel
theorem dX6_done_19 : decode cX6_done 19 = .ok (.ireturn, 1) := by decide +kernel
theorem dX6_in_0 : decode cX6_in 0 = .ok (.lload_n 0, 1) := by decide +kernel
theorem dX6_in_1 : decode cX6_in 1 = .ok (.lload_n 2, 1) := by decide +kernel
theorem dX6_in_2 : decode cX6_in 2 = .ok (.lcmp, 1) := by decide +kernel
theorem dX6_in_3 : decode cX6_in 3 = .ok (.ifCond .lt 14, 3) := by decide +kernel
theorem dX6_in_6 : decode cX6_in 6 = .ok (.lload_n 0, 1) := by decide +kernel
theorem dX6_in_7 : decode cX6_in 7 = .ok (.lload 4, 2) := by decide +kernel
theorem dX6_in_9 : decode cX6_in 9 = .ok (.lcmp, 1) := by decide +kernel
theorem dX6_in_10 : decode cX6_in 10 = .ok (.ifCond .gt 7, 3) := by decide +kernel
theorem dX6_in_13 : decode cX6_in 13 = .ok (.iconst 1, 1) := by decide +kernel
theorem dX6_in_14 : decode cX6_in 14 = .ok (.goto 4, 3) := by decide +kernel
theorem dX6_in_17 : decode cX6_in 17 = .ok (.iconst 0, 1) := by decide +kernel
theorem dX6_in_18 : decode cX6_in 18 = .ok (.ireturn, 1) := by decide +kernel
theorem dX6_common_0 : decode cX6_common 0 = .ok (.lload_n 0, 1) := by decide +kernel
theorem dX6_common_1 : decode cX6_common 1 = .ok (.lconst 0, 1) := by decide +kernel
theorem dX6_common_2 : decode cX6_common 2 = .ok (.lcmp, 1) := by decide +kernel
theorem dX6_common_3 : decode cX6_common 3 = .ok (.ifCond .ge 8, 3) := by decide +kernel
theorem dX6_common_6 : decode cX6_common 6 = .ok (.lload_n 0, 1) := by decide +kernel
theorem dX6_common_7 : decode cX6_common 7 = .ok (.lneg, 1) := by decide +kernel
theorem dX6_common_8 : decode cX6_common 8 = .ok (.goto 4, 3) := by decide +kernel
theorem dX6_common_11 : decode cX6_common 11 = .ok (.lload_n 0, 1) := by decide +kernel
theorem dX6_common_12 : decode cX6_common 12 = .ok (.lstore 4, 2) := by decide +kernel
theorem dX6_common_14 : decode cX6_common 14 = .ok (.lload_n 2, 1) := by decide +kernel
theorem dX6_common_15 : decode cX6_common 15 = .ok (.lconst 0, 1) := by decide +kernel
theorem dX6_common_16 : decode cX6_common 16 = .ok (.lcmp, 1) := by decide +kernel
theorem dX6_common_17 : decode cX6_common 17 = .ok (.ifCond .ge 8, 3) := by decide +kernel
theorem dX6_common_20 : decode cX6_common 20 = .ok (.lload_n 2, 1) := by decide +kernel
theorem dX6_common_21 : decode cX6_common 21 = .ok (.lneg, 1) := by decide +kernel
theorem dX6_common_22 : decode cX6_common 22 = .ok (.goto 4, 3) := by decide +kernel
theorem dX6_common_25 : decode cX6_common 25 = .ok (.lload_n 2, 1) := by decide +kernel
theorem dX6_common_26 : decode cX6_common 26 = .ok (.lstore 6, 2) := by decide +kernel
theorem dX6_common_28 : decode cX6_common 28 = .ok (.lload 6, 2) := by decide +kernel
theorem dX6_common_30 : decode cX6_common 30 = .ok (.lconst 0, 1) := by decide +kernel
theorem dX6_common_31 : decode cX6_common 31 = .ok (.lcmp, 1) := by decide +kernel
theorem dX6_common_32 : decode cX6_common 32 = .ok (.ifCond .eq 21, 3) := by decide +kernel
theorem dX6_common_35 : decode cX6_common 35 = .ok (.lload 4, 2) := by decide +kernel
theorem dX6_common_37 : decode cX6_common 37 = .ok (.lload 6, 2) := by decide +kernel
theorem dX6_common_39 : decode cX6_common 39 = .ok (.lrem, 1) := by decide +kernel
theorem dX6_common_40 : decode cX6_common 40 = .ok (.lstore 8, 2) := by decide +kernel
theorem dX6_common_42 : decode cX6_common 42 = .ok (.lload 6, 2) := by decide +kernel
theorem dX6_common_44 : decode cX6_common 44 = .ok (.lstore 4, 2) := by decide +kernel
theorem dX6_common_46 : decode cX6_common 46 = .ok (.lload 8, 2) := by decide +kernel
theorem dX6_common_48 : decode cX6_common 48 = .ok (.lstore 6, 2) := by decide +kernel
theorem dX6_common_50 : decode cX6_common 50 = .ok (.goto (-22), 3) := by decide +kernel
theorem dX6_common_53 : decode cX6_common 53 = .ok (.lload 4, 2) := by decide +kernel
theorem dX6_common_55 : decode cX6_common 55 = .ok (.lreturn, 1) := by decide +kernel
theorem dX6_down_0 : decode cX6_down 0 = .ok (.lload_n 0, 1) := by decide +kernel
theorem dX6_down_1 : decode cX6_down 1 = .ok (.lload_n 2, 1) := by decide +kernel
theorem dX6_down_2 : decode cX6_down 2 = .ok (.ldiv, 1) := by decide +kernel
theorem dX6_down_3 : decode cX6_down 3 = .ok (.lstore 4, 2) := by decide +kernel
theorem dX6_down_5 : decode cX6_down 5 = .ok (.lload_n 0, 1) := by decide +kernel
theorem dX6_down_6 : decode cX6_down 6 = .ok (.lload_n 2, 1) := by decide +kernel
theorem dX6_down_7 : decode cX6_down 7 = .ok (.lrem, 1) := by decide +kernel
theorem dX6_down_8 : decode cX6_down 8 = .ok (.lconst 0, 1) := by decide +kernel
theorem dX6_down_9 : decode cX6_down 9 = .ok (.lcmp, 1) := by decide +kernel
theorem dX6_down_10 : decode cX6_down 10 = .ok (.ifCond .ge 10, 3) := by decide +kernel
theorem dX6_down_13 : decode cX6_down 13 = .ok (.lload 4, 2) := by decide +kernel
theorem dX6_down_15 : decode cX6_down 15 = .ok (.lconst 1, 1) := by decide +kernel
theorem dX6_down_16 : decode cX6_down 16 = .ok (.lsub, 1) := by decide +kernel
theorem dX6_down_17 : decode cX6_down 17 = .ok (.goto 5, 3) := by decide +kernel
theorem dX6_down_20 : decode cX6_down 20 = .ok (.lload 4, 2) := by decide +kernel
theorem dX6_down_22 : decode cX6_down 22 = .ok (.lreturn, 1) := by decide +kernel
theorem dX6_up_0 : decode cX6_up 0 = .ok (.lload_n 0, 1) := by decide +kernel
theorem dX6_up_1 : decode cX6_up 1 = .ok (.lneg, 1) := by decide +kernel
theorem dX6_up_2 : decode cX6_up 2 = .ok (.lload_n 2, 1) := by decide +kernel
theorem dX6_up_3 : decode cX6_up 3 = .ok (.invokestatic 85, 3) := by decide +kernel
theorem dX6_up_6 : decode cX6_up 6 = .ok (.lneg, 1) := by decide +kernel
theorem dX6_up_7 : decode cX6_up 7 = .ok (.lreturn, 1) := by decide +kernel
theorem dX6_feed_0 : decode cX6_feed 0 = .ok (.aload_n 0, 1) := by decide +kernel
theorem dX6_feed_1 : decode cX6_feed 1 = .ok (.iconst 0, 1) := by decide +kernel
theorem dX6_feed_2 : decode cX6_feed 2 = .ok (.putfield 77, 3) := by decide +kernel
theorem dX6_feed_5 : decode cX6_feed 5 = .ok (.aload_n 0, 1) := by decide +kernel
theorem dX6_feed_6 : decode cX6_feed 6 = .ok (.getfield 89, 3) := by decide +kernel
theorem dX6_feed_9 : decode cX6_feed 9 = .ok (.bipush 20, 2) := by decide +kernel
theorem dX6_feed_11 : decode cX6_feed 11 = .ok (.iadd, 1) := by decide +kernel
theorem dX6_feed_12 : decode cX6_feed 12 = .ok (.sipush 500, 3) := by decide +kernel
theorem dX6_feed_15 : decode cX6_feed 15 = .ok (.if_icmp .le 5, 3) := by decide +kernel
theorem dX6_feed_18 : decode cX6_feed 18 = .ok (.iconst (-1), 1) := by decide +kernel
theorem dX6_feed_19 : decode cX6_feed 19 = .ok (.ireturn, 1) := by decide +kernel
theorem dX6_feed_20 : decode cX6_feed 20 = .ok (.iconst 0, 1) := by decide +kernel
theorem dX6_feed_21 : decode cX6_feed 21 = .ok (.istore 6, 2) := by decide +kernel
theorem dX6_feed_23 : decode cX6_feed 23 = .ok (.iload 6, 2) := by decide +kernel
theorem dX6_feed_25 : decode cX6_feed 25 = .ok (.bipush 20, 2) := by decide +kernel
theorem dX6_feed_27 : decode cX6_feed 27 = .ok (.if_icmp .ge 86, 3) := by decide +kernel
theorem dX6_feed_30 : decode cX6_feed 30 = .ok (.iload 6, 2) := by decide +kernel
theorem dX6_feed_32 : decode cX6_feed 32 = .ok (.iconst 4, 1) := by decide +kernel
theorem dX6_feed_33 : decode cX6_feed 33 = .ok (.if_icmp .ge 7, 3) := by decide +kernel
theorem dX6_feed_36 : decode cX6_feed 36 = .ok (.iload_n 1, 1) := by decide +kernel
theorem dX6_feed_37 : decode cX6_feed 37 = .ok (.goto 39, 3) := by decide +kernel
theorem dX6_feed_40 : decode cX6_feed 40 = .ok (.iload 6, 2) := by decide +kernel
theorem dX6_feed_42 : decode cX6_feed 42 = .ok (.bipush 8, 2) := by decide +kernel
theorem dX6_feed_44 : decode cX6_feed 44 = .ok (.if_icmp .ge 7, 3) := by decide +kernel
theorem dX6_feed_47 : decode cX6_feed 47 = .ok (.iload_n 2, 1) := by decide +kernel
theorem dX6_feed_48 : decode cX6_feed 48 = .ok (.goto 28, 3) := by decide +kernel
theorem dX6_feed_51 : decode cX6_feed 51 = .ok (.iload 6, 2) := by decide +kernel
theorem dX6_feed_53 : decode cX6_feed 53 = .ok (.bipush 12, 2) := by decide +kernel
theorem dX6_feed_55 : decode cX6_feed 55 = .ok (.if_icmp .ge 7, 3) := by decide +kernel
theorem dX6_feed_58 : decode cX6_feed 58 = .ok (.iload_n 3, 1) := by decide +kernel
theorem dX6_feed_59 : decode cX6_feed 59 = .ok (.goto 17, 3) := by decide +kernel
theorem dX6_feed_62 : decode cX6_feed 62 = .ok (.iload 6, 2) := by decide +kernel
theorem dX6_feed_64 : decode cX6_feed 64 = .ok (.bipush 16, 2) := by decide +kernel
theorem dX6_feed_66 : decode cX6_feed 66 = .ok (.if_icmp .ge 8, 3) := by decide +kernel
theorem dX6_feed_69 : decode cX6_feed 69 = .ok (.iload 4, 2) := by decide +kernel
theorem dX6_feed_71 : decode cX6_feed 71 = .ok (.goto 5, 3) := by decide +kernel
theorem dX6_feed_74 : decode cX6_feed 74 = .ok (.iload 5, 2) := by decide +kernel
theorem dX6_feed_76 : decode cX6_feed 76 = .ok (.istore 7, 2) := by decide +kernel
theorem dX6_feed_78 : decode cX6_feed 78 = .ok (.aload_n 0, 1) := by decide +kernel
theorem dX6_feed_79 : decode cX6_feed 79 = .ok (.getfield 15, 3) := by decide +kernel
theorem dX6_feed_82 : decode cX6_feed 82 = .ok (.aload_n 0, 1) := by decide +kernel
theorem dX6_feed_83 : decode cX6_feed 83 = .ok (.getfield 89, 3) := by decide +kernel
theorem dX6_feed_86 : decode cX6_feed 86 = .ok (.iload 6, 2) := by decide +kernel
theorem dX6_feed_88 : decode cX6_feed 88 = .ok (.iadd, 1) := by decide +kernel
theorem dX6_feed_89 : decode cX6_feed 89 = .ok (.iload 7, 2) := by decide +kernel
theorem dX6_feed_91 : decode cX6_feed 91 = .ok (.bipush 24, 2) := by decide +kernel
theorem dX6_feed_93 : decode cX6_feed 93 = .ok (.bipush 8, 2) := by decide +kernel
theorem dX6_feed_95 : decode cX6_feed 95 = .ok (.iload 6, 2) := by decide +kernel
theorem dX6_feed_97 : decode cX6_feed 97 = .ok (.iconst 4, 1) := by decide +kernel
theorem dX6_feed_98 : decode cX6_feed 98 = .ok (.irem, 1) := by decide +kernel
theorem dX6_feed_99 : decode cX6_feed 99 = .ok (.imul, 1) := by decide +kernel
theorem dX6_feed_100 : decode cX6_feed 100 = .ok (.isub, 1) := by decide +kernel
theorem dX6_feed_101 : decode cX6_feed 101 = .ok (.ishr, 1) := by decide +kernel
theorem dX6_feed_102 : decode cX6_feed 102 = .ok (.sipush 255, 3) := by decide +kernel
theorem dX6_feed_105 : decode cX6_feed 105 = .ok (.iand, 1) := by decide +kernel
theorem dX6_feed_106 : decode cX6_feed 106 = .ok (.iastore, 1) := by decide +kernel
theorem dX6_feed_107 : decode cX6_feed 107 = .ok (.iinc 6 1, 3) := by decide +kernel
theorem dX6_feed_110 : decode cX6_feed 110 = .ok (.goto (-87), 3) := by decide +kernel
theorem dX6_feed_113 : decode cX6_feed 113 = .ok (.aload_n 0, 1) := by decide +kernel
theorem dX6_feed_114 : decode cX6_feed 114 = .ok (.dup, 1) := by decide +kernel
theorem dX6_feed_115 : decode cX6_feed 115 = .ok (.getfield 89, 3) := by decide +kernel
theorem dX6_feed_118 : decode cX6_feed 118 = .ok (.bipush 20, 2) := by decide +kernel
theorem dX6_feed_120 : decode cX6_feed 120 = .ok (.iadd, 1) := by decide +kernel
theorem dX6_feed_121 : decode cX6_feed 121 = .ok (.putfield 89, 3) := by decide +kernel
theorem dX6_feed_124 : decode cX6_feed 124 = .ok (.aload_n 0, 1) := by decide +kernel
theorem dX6_feed_125 : decode cX6_feed 125 = .ok (.getfield 89, 3) := by decide +kernel
theorem dX6_feed_128 : decode cX6_feed 128 = .ok (.ireturn, 1) := by decide +kernel
theorem dX6_flaw_0 : decode cX6_flaw 0 = .ok (.aload_n 0, 1) := by decide +kernel
theorem dX6_flaw_1 : decode cX6_flaw 1 = .ok (.getfield 92, 3) := by decide +kernel
theorem dX6_flaw_4 : decode cX6_flaw 4 = .ok (.ifCond .le 4, 3) := by decide +kernel
theorem dX6_flaw_7 : decode cX6_flaw 7 = .ok (.return_, 1) := by decide +kernel
theorem dX6_flaw_8 : decode cX6_flaw 8 = .ok (.aload_n 0, 1) := by decide +kernel
theorem dX6_flaw_9 : decode cX6_flaw 9 = .ok (.iload_n 1, 1) := by decide +kernel
theorem dX6_flaw_10 : decode cX6_flaw 10 = .ok (.putfield 92, 3) := by decide +kernel
theorem dX6_flaw_13 : decode cX6_flaw 13 = .ok (.aload_n 0, 1) := by decide +kernel
theorem dX6_flaw_14 : decode cX6_flaw 14 = .ok (.aload_n 0, 1) := by decide +kernel
theorem dX6_flaw_15 : decode cX6_flaw 15 = .ok (.getfield 95, 3) := by decide +kernel
theorem dX6_flaw_18 : decode cX6_flaw 18 = .ok (.putfield 98, 3) := by decide +kernel
theorem dX6_flaw_21 : decode cX6_flaw 21 = .ok (.return_, 1) := by decide +kernel
theorem dX6_isLetterAt_0 : decode cX6_isLetterAt 0 = .ok (.iload_n 1, 1) := by decide +kernel
theorem dX6_isLetterAt_1 : decode cX6_isLetterAt 1 = .ok (.aload_n 0, 1) := by decide +kernel
theorem dX6_isLetterAt_2 : decode cX6_isLetterAt 2 = .ok (.getfield 101, 3) := by decide +kernel
theorem dX6_isLetterAt_5 : decode cX6_isLetterAt 5 = .ok (.if_icmp .ge 26, 3) := by decide +kernel
theorem dX6_isLetterAt_8 : decode cX6_isLetterAt 8 = .ok (.aload_n 0, 1) := by decide +kernel
theorem dX6_isLetterAt_9 : decode cX6_isLetterAt 9 = .ok (.getfield 15, 3) := by decide +kernel
theorem dX6_isLetterAt_12 : decode cX6_isLetterAt 12 = .ok (.iload_n 1, 1) := by decide +kernel
theorem dX6_isLetterAt_13 : decode cX6_isLetterAt 13 = .ok (.iaload, 1) := by decide +kernel
theorem dX6_isLetterAt_14 : decode cX6_isLetterAt 14 = .ok (.i2l, 1) := by decide +kernel
theorem dX6_isLetterAt_15 : decode cX6_isLetterAt 15 = .ok (.ldc2_w 104, 3) := by decide +kernel
theorem dX6_isLetterAt_18 : decode cX6_isLetterAt 18 = .ok (.ldc2_w 106, 3) := by decide +kernel
theorem dX6_isLetterAt_21 : decode cX6_isLetterAt 21 = .ok (.invokestatic 108, 3) := by decide +kernel
theorem dX6_isLetterAt_24 : decode cX6_isLetterAt 24 = .ok (.ifCond .eq 7, 3) := by decide +kernel
theorem dX6_isLetterAt_27 : decode cX6_isLetterAt 27 = .ok (.iconst 1, 1) := by decide +kernel
theorem dX6_isLetterAt_28 : decode cX6_isLetterAt 28 = .ok (.goto 4, 3) := by decide +kernel
theorem dX6_isLetterAt_31 : decode cX6_isLetterAt 31 = .ok (.iconst 0, 1) := by decide +kernel
theorem dX6_isLetterAt_32 : decode cX6_isLetterAt 32 = .ok (.ireturn, 1) := by decide +kernel
theorem dX6_isDigitAt_0 : decode cX6_isDigitAt 0 = .ok (.iload_n 1, 1) := by decide +kernel
theorem dX6_isDigitAt_1 : decode cX6_isDigitAt 1 = .ok (.aload_n 0, 1) := by decide +kernel
theorem dX6_isDigitAt_2 : decode cX6_isDigitAt 2 = .ok (.getfield 101, 3) := by decide +kernel
theorem dX6_isDigitAt_5 : decode cX6_isDigitAt 5 = .ok (.if_icmp .ge 26, 3) := by decide +kernel
theorem dX6_isDigitAt_8 : decode cX6_isDigitAt 8 = .ok (.aload_n 0, 1) := by decide +kernel
theorem dX6_isDigitAt_9 : decode cX6_isDigitAt 9 = .ok (.getfield 15, 3) := by decide +kernel
theorem dX6_isDigitAt_12 : decode cX6_isDigitAt 12 = .ok (.iload_n 1, 1) := by decide +kernel
theorem dX6_isDigitAt_13 : decode cX6_isDigitAt 13 = .ok (.iaload, 1) := by decide +kernel
theorem dX6_isDigitAt_14 : decode cX6_isDigitAt 14 = .ok (.i2l, 1) := by decide +kernel
theorem dX6_isDigitAt_15 : decode cX6_isDigitAt 15 = .ok (.ldc2_w 112, 3) := by decide +kernel
theorem dX6_isDigitAt_18 : decode cX6_isDigitAt 18 = .ok (.ldc2_w 114, 3) := by decide +kernel
theorem dX6_isDigitAt_21 : decode cX6_isDigitAt 21 = .ok (.invokestatic 108, 3) := by decide +kernel
theorem dX6_isDigitAt_24 : decode cX6_isDigitAt 24 = .ok (.ifCond .eq 7, 3) := by decide +kernel
theorem dX6_isDigitAt_27 : decode cX6_isDigitAt 27 = .ok (.iconst 1, 1) := by decide +kernel
theorem dX6_isDigitAt_28 : decode cX6_isDigitAt 28 = .ok (.goto 4, 3) := by decide +kernel
theorem dX6_isDigitAt_31 : decode cX6_isDigitAt 31 = .ok (.iconst 0, 1) := by decide +kernel
theorem dX6_isDigitAt_32 : decode cX6_isDigitAt 32 = .ok (.ireturn, 1) := by decide +kernel
theorem dX6_goOn_0 : decode cX6_goOn 0 = .ok (.aload_n 0, 1) := by decide +kernel
theorem dX6_goOn_1 : decode cX6_goOn 1 = .ok (.getfield 92, 3) := by decide +kernel
theorem dX6_goOn_4 : decode cX6_goOn 4 = .ok (.ifCond .le 4, 3) := by decide +kernel
theorem dX6_goOn_7 : decode cX6_goOn 7 = .ok (.return_, 1) := by decide +kernel
theorem dX6_goOn_8 : decode cX6_goOn 8 = .ok (.aload_n 0, 1) := by decide +kernel
theorem dX6_goOn_9 : decode cX6_goOn 9 = .ok (.getfield 116, 3) := by decide +kernel
theorem dX6_goOn_12 : decode cX6_goOn 12 = .ok (.aload_n 0, 1) := by decide +kernel
theorem dX6_goOn_13 : decode cX6_goOn 13 = .ok (.getfield 101, 3) := by decide +kernel
theorem dX6_goOn_16 : decode cX6_goOn 16 = .ok (.if_icmp .ge 30, 3) := by decide +kernel
theorem dX6_goOn_19 : decode cX6_goOn 19 = .ok (.aload_n 0, 1) := by decide +kernel
theorem dX6_goOn_20 : decode cX6_goOn 20 = .ok (.getfield 15, 3) := by decide +kernel
theorem dX6_goOn_23 : decode cX6_goOn 23 = .ok (.aload_n 0, 1) := by decide +kernel
theorem dX6_goOn_24 : decode cX6_goOn 24 = .ok (.getfield 116, 3) := by decide +kernel
theorem dX6_goOn_27 : decode cX6_goOn 27 = .ok (.iaload, 1) := by decide +kernel
theorem dX6_goOn_28 : decode cX6_goOn 28 = .ok (.bipush 32, 2) := by decide +kernel
theorem dX6_goOn_30 : decode cX6_goOn 30 = .ok (.if_icmp .ne 16, 3) := by decide +kernel
theorem dX6_goOn_33 : decode cX6_goOn 33 = .ok (.aload_n 0, 1) := by decide +kernel
theorem dX6_goOn_34 : decode cX6_goOn 34 = .ok (.dup, 1) := by decide +kernel
theorem dX6_goOn_35 : decode cX6_goOn 35 = .ok (.getfield 116, 3) := by decide +kernel
theorem dX6_goOn_38 : decode cX6_goOn 38 = .ok (.iconst 1, 1) := by decide +kernel
theorem dX6_goOn_39 : decode cX6_goOn 39 = .ok (.iadd, 1) := by decide +kernel
theorem dX6_goOn_40 : decode cX6_goOn 40 = .ok (.putfield 116, 3) := by decide +kernel
theorem dX6_goOn_43 : decode cX6_goOn 43 = .ok (.goto (-35), 3) := by decide +kernel
theorem dX6_goOn_46 : decode cX6_goOn 46 = .ok (.aload_n 0, 1) := by decide +kernel
theorem dX6_goOn_47 : decode cX6_goOn 47 = .ok (.aload_n 0, 1) := by decide +kernel
theorem dX6_goOn_48 : decode cX6_goOn 48 = .ok (.getfield 116, 3) := by decide +kernel
theorem dX6_goOn_51 : decode cX6_goOn 51 = .ok (.putfield 95, 3) := by decide +kernel
theorem dX6_goOn_54 : decode cX6_goOn 54 = .ok (.aload_n 0, 1) := by decide +kernel
theorem dX6_goOn_55 : decode cX6_goOn 55 = .ok (.getfield 116, 3) := by decide +kernel
theorem dX6_goOn_58 : decode cX6_goOn 58 = .ok (.aload_n 0, 1) := by decide +kernel
theorem dX6_goOn_59 : decode cX6_goOn 59 = .ok (.getfield 101, 3) := by decide +kernel
theorem dX6_goOn_62 : decode cX6_goOn 62 = .ok (.if_icmp .ne 11, 3) := by decide +kernel
theorem dX6_goOn_65 : decode cX6_goOn 65 = .ok (.aload_n 0, 1) := by decide +kernel
theorem dX6_goOn_66 : decode cX6_goOn 66 = .ok (.iconst 1, 1) := by decide +kernel
theorem dX6_goOn_67 : decode cX6_goOn 67 = .ok (.putfield 119, 3) := by decide +kernel
theorem dX6_goOn_70 : decode cX6_goOn 70 = .ok (.goto 273, 3) := by decide +kernel
theorem dX6_goOn_73 : decode cX6_goOn 73 = .ok (.aload_n 0, 1) := by decide +kernel
theorem dX6_goOn_74 : decode cX6_goOn 74 = .ok (.aload_n 0, 1) := by decide +kernel
theorem dX6_goOn_75 : decode cX6_goOn 75 = .ok (.getfield 116, 3) := by decide +kernel
theorem dX6_goOn_78 : decode cX6_goOn 78 = .ok (.invokevirtual 122, 3) := by decide +kernel
theorem dX6_goOn_81 : decode cX6_goOn 81 = .ok (.ifCond .eq 101, 3) := by decide +kernel
theorem dX6_goOn_84 : decode cX6_goOn 84 = .ok (.aload_n 0, 1) := by decide +kernel
theorem dX6_goOn_85 : decode cX6_goOn 85 = .ok (.lconst 0, 1) := by decide +kernel
theorem dX6_goOn_86 : decode cX6_goOn 86 = .ok (.putfield 126, 3) := by decide +kernel
theorem dX6_goOn_89 : decode cX6_goOn 89 = .ok (.aload_n 0, 1) := by decide +kernel
theorem dX6_goOn_90 : decode cX6_goOn 90 = .ok (.aload_n 0, 1) := by decide +kernel
theorem dX6_goOn_91 : decode cX6_goOn 91 = .ok (.getfield 116, 3) := by decide +kernel
theorem dX6_goOn_94 : decode cX6_goOn 94 = .ok (.invokevirtual 122, 3) := by decide +kernel
theorem dX6_goOn_97 : decode cX6_goOn 97 = .ok (.ifCond .eq 59, 3) := by decide +kernel
theorem dX6_goOn_100 : decode cX6_goOn 100 = .ok (.aload_n 0, 1) := by decide +kernel
theorem dX6_goOn_101 : decode cX6_goOn 101 = .ok (.getfield 116, 3) := by decide +kernel
theorem dX6_goOn_104 : decode cX6_goOn 104 = .ok (.aload_n 0, 1) := by decide +kernel
theorem dX6_goOn_105 : decode cX6_goOn 105 = .ok (.getfield 95, 3) := by decide +kernel
theorem dX6_goOn_108 : decode cX6_goOn 108 = .ok (.isub, 1) := by decide +kernel
theorem dX6_goOn_109 : decode cX6_goOn 109 = .ok (.bipush 6, 2) := by decide +kernel
theorem dX6_goOn_111 : decode cX6_goOn 111 = .ok (.if_icmp .ge 32, 3) := by decide +kernel
theorem dX6_goOn_114 : decode cX6_goOn 114 = .ok (.aload_n 0, 1) := by decide +kernel
theorem dX6_goOn_115 : decode cX6_goOn 115 = .ok (.aload_n 0, 1) := by decide +kernel
theorem dX6_goOn_116 : decode cX6_goOn 116 = .ok (.getfield 126, 3) := by decide +kernel
theorem dX6_goOn_119 : decode cX6_goOn 119 = .ok (.ldc2_w 130, 3) := by decide +kernel
theorem dX6_goOn_122 : decode cX6_goOn 122 = .ok (.lmul, 1) := by decide +kernel
theorem dX6_goOn_123 : decode cX6_goOn 123 = .ok (.aload_n 0, 1) := by decide +kernel
theorem dX6_goOn_124 : decode cX6_goOn 124 = .ok (.getfield 15, 3) := by decide +kernel
theorem dX6_goOn_127 : decode cX6_goOn 127 = .ok (.aload_n 0, 1) := by decide +kernel
theorem dX6_goOn_128 : decode cX6_goOn 128 = .ok (.getfield 116, 3) := by decide +kernel
theorem dX6_goOn_131 : decode cX6_goOn 131 = .ok (.iaload, 1) := by decide +kernel
theorem dX6_goOn_132 : decode cX6_goOn 132 = .ok (.i2l, 1) := by decide +kernel
theorem dX6_goOn_133 : decode cX6_goOn 133 = .ok (.ladd, 1) := by decide +kernel
theorem dX6_goOn_134 : decode cX6_goOn 134 = .ok (.ldc2_w 104, 3) := by decide +kernel
theorem dX6_goOn_137 : decode cX6_goOn 137 = .ok (.lsub, 1) := by decide +kernel
theorem dX6_goOn_138 : decode cX6_goOn 138 = .ok (.lconst 1, 1) := by decide +kernel
theorem dX6_goOn_139 : decode cX6_goOn 139 = .ok (.ladd, 1) := by decide +kernel
theorem dX6_goOn_140 : decode cX6_goOn 140 = .ok (.putfield 126, 3) := by decide +kernel
theorem dX6_goOn_143 : decode cX6_goOn 143 = .ok (.aload_n 0, 1) := by decide +kernel
theorem dX6_goOn_144 : decode cX6_goOn 144 = .ok (.dup, 1) := by decide +kernel
theorem dX6_goOn_145 : decode cX6_goOn 145 = .ok (.getfield 116, 3) := by decide +kernel
theorem dX6_goOn_148 : decode cX6_goOn 148 = .ok (.iconst 1, 1) := by decide +kernel
theorem dX6_goOn_149 : decode cX6_goOn 149 = .ok (.iadd, 1) := by decide +kernel
theorem dX6_goOn_150 : decode cX6_goOn 150 = .ok (.putfield 116, 3) := by decide +kernel
theorem dX6_goOn_153 : decode cX6_goOn 153 = .ok (.goto (-64), 3) := by decide +kernel
theorem dX6_goOn_156 : decode cX6_goOn 156 = .ok (.aload_n 0, 1) := by decide +kernel
theorem dX6_goOn_157 : decode cX6_goOn 157 = .ok (.aload_n 0, 1) := by decide +kernel
theorem dX6_goOn_158 : decode cX6_goOn 158 = .ok (.getfield 116, 3) := by decide +kernel
theorem dX6_goOn_161 : decode cX6_goOn 161 = .ok (.aload_n 0, 1) := by decide +kernel
theorem dX6_goOn_162 : decode cX6_goOn 162 = .ok (.getfield 95, 3) := by decide +kernel
theorem dX6_goOn_165 : decode cX6_goOn 165 = .ok (.isub, 1) := by decide +kernel
theorem dX6_goOn_166 : decode cX6_goOn 166 = .ok (.bipush 6, 2) := by decide +kernel
theorem dX6_goOn_168 : decode cX6_goOn 168 = .ok (.if_icmp .le 7, 3) := by decide +kernel
theorem dX6_goOn_171 : decode cX6_goOn 171 = .ok (.iconst 0, 1) := by decide +kernel
theorem dX6_goOn_172 : decode cX6_goOn 172 = .ok (.goto 4, 3) := by decide +kernel
theorem dX6_goOn_175 : decode cX6_goOn 175 = .ok (.iconst 2, 1) := by decide +kernel
theorem dX6_goOn_176 : decode cX6_goOn 176 = .ok (.putfield 119, 3) := by decide +kernel
theorem dX6_goOn_179 : decode cX6_goOn 179 = .ok (.goto 164, 3) := by decide +kernel
theorem dX6_goOn_182 : decode cX6_goOn 182 = .ok (.aload_n 0, 1) := by decide +kernel
theorem dX6_goOn_183 : decode cX6_goOn 183 = .ok (.aload_n 0, 1) := by decide +kernel
theorem dX6_goOn_184 : decode cX6_goOn 184 = .ok (.getfield 116, 3) := by decide +kernel
theorem dX6_goOn_187 : decode cX6_goOn 187 = .ok (.invokevirtual 132, 3) := by decide +kernel
theorem dX6_goOn_190 : decode cX6_goOn 190 = .ok (.ifCond .eq 94, 3) := by decide +kernel
theorem dX6_goOn_193 : decode cX6_goOn 193 = .ok (.aload_n 0, 1) := by decide +kernel
theorem dX6_goOn_194 : decode cX6_goOn 194 = .ok (.iconst 0, 1) := by decide +kernel
theorem dX6_goOn_195 : decode cX6_goOn 195 = .ok (.putfield 135, 3) := by decide +kernel
theorem dX6_goOn_198 : decode cX6_goOn 198 = .ok (.aload_n 0, 1) := by decide +kernel
theorem dX6_goOn_199 : decode cX6_goOn 199 = .ok (.aload_n 0, 1) := by decide +kernel
theorem dX6_goOn_200 : decode cX6_goOn 200 = .ok (.getfield 116, 3) := by decide +kernel
theorem dX6_goOn_203 : decode cX6_goOn 203 = .ok (.invokevirtual 132, 3) := by decide +kernel
theorem dX6_goOn_206 : decode cX6_goOn 206 = .ok (.ifCond .eq 53, 3) := by decide +kernel
theorem dX6_goOn_209 : decode cX6_goOn 209 = .ok (.aload_n 0, 1) := by decide +kernel
theorem dX6_goOn_210 : decode cX6_goOn 210 = .ok (.getfield 116, 3) := by decide +kernel
theorem dX6_goOn_213 : decode cX6_goOn 213 = .ok (.aload_n 0, 1) := by decide +kernel
theorem dX6_goOn_214 : decode cX6_goOn 214 = .ok (.getfield 95, 3) := by decide +kernel
theorem dX6_goOn_217 : decode cX6_goOn 217 = .ok (.isub, 1) := by decide +kernel
theorem dX6_goOn_218 : decode cX6_goOn 218 = .ok (.iconst 2, 1) := by decide +kernel
theorem dX6_goOn_219 : decode cX6_goOn 219 = .ok (.if_icmp .ge 27, 3) := by decide +kernel
theorem dX6_goOn_222 : decode cX6_goOn 222 = .ok (.aload_n 0, 1) := by decide +kernel
theorem dX6_goOn_223 : decode cX6_goOn 223 = .ok (.bipush 10, 2) := by decide +kernel
theorem dX6_goOn_225 : decode cX6_goOn 225 = .ok (.aload_n 0, 1) := by decide +kernel
theorem dX6_goOn_226 : decode cX6_goOn 226 = .ok (.getfield 135, 3) := by decide +kernel
theorem dX6_goOn_229 : decode cX6_goOn 229 = .ok (.imul, 1) := by decide +kernel
theorem dX6_goOn_230 : decode cX6_goOn 230 = .ok (.aload_n 0, 1) := by decide +kernel
theorem dX6_goOn_231 : decode cX6_goOn 231 = .ok (.getfield 15, 3) := by decide +kernel
theorem dX6_goOn_234 : decode cX6_goOn 234 = .ok (.aload_n 0, 1) := by decide +kernel
theorem dX6_goOn_235 : decode cX6_goOn 235 = .ok (.getfield 116, 3) := by decide +kernel
theorem dX6_goOn_238 : decode cX6_goOn 238 = .ok (.iaload, 1) := by decide +kernel
theorem dX6_goOn_239 : decode cX6_goOn 239 = .ok (.iadd, 1) := by decide +kernel
theorem dX6_goOn_240 : decode cX6_goOn 240 = .ok (.bipush 48, 2) := by decide +kernel
theorem dX6_goOn_242 : decode cX6_goOn 242 = .ok (.isub, 1) := by decide +kernel
theorem dX6_goOn_243 : decode cX6_goOn 243 = .ok (.putfield 135, 3) := by decide +kernel
theorem dX6_goOn_246 : decode cX6_goOn 246 = .ok (.aload_n 0, 1) := by decide +kernel
theorem dX6_goOn_247 : decode cX6_goOn 247 = .ok (.dup, 1) := by decide +kernel
theorem dX6_goOn_248 : decode cX6_goOn 248 = .ok (.getfield 116, 3) := by decide +kernel
theorem dX6_goOn_251 : decode cX6_goOn 251 = .ok (.iconst 1, 1) := by decide +kernel
theorem dX6_goOn_252 : decode cX6_goOn 252 = .ok (.iadd, 1) := by decide +kernel
theorem dX6_goOn_253 : decode cX6_goOn 253 = .ok (.putfield 116, 3) := by decide +kernel
theorem dX6_goOn_256 : decode cX6_goOn 256 = .ok (.goto (-58), 3) := by decide +kernel
theorem dX6_goOn_259 : decode cX6_goOn 259 = .ok (.aload_n 0, 1) := by decide +kernel
theorem dX6_goOn_260 : decode cX6_goOn 260 = .ok (.aload_n 0, 1) := by decide +kernel
theorem dX6_goOn_261 : decode cX6_goOn 261 = .ok (.getfield 116, 3) := by decide +kernel
theorem dX6_goOn_264 : decode cX6_goOn 264 = .ok (.aload_n 0, 1) := by decide +kernel
theorem dX6_goOn_265 : decode cX6_goOn 265 = .ok (.getfield 95, 3) := by decide +kernel
theorem dX6_goOn_268 : decode cX6_goOn 268 = .ok (.isub, 1) := by decide +kernel
theorem dX6_goOn_269 : decode cX6_goOn 269 = .ok (.iconst 2, 1) := by decide +kernel
theorem dX6_goOn_270 : decode cX6_goOn 270 = .ok (.if_icmp .le 7, 3) := by decide +kernel
theorem dX6_goOn_273 : decode cX6_goOn 273 = .ok (.iconst 0, 1) := by decide +kernel
theorem dX6_goOn_274 : decode cX6_goOn 274 = .ok (.goto 4, 3) := by decide +kernel
theorem dX6_goOn_277 : decode cX6_goOn 277 = .ok (.iconst 3, 1) := by decide +kernel
theorem dX6_goOn_278 : decode cX6_goOn 278 = .ok (.putfield 119, 3) := by decide +kernel
theorem dX6_goOn_281 : decode cX6_goOn 281 = .ok (.goto 62, 3) := by decide +kernel
theorem dX6_goOn_284 : decode cX6_goOn 284 = .ok (.aload_n 0, 1) := by decide +kernel
theorem dX6_goOn_285 : decode cX6_goOn 285 = .ok (.aload_n 0, 1) := by decide +kernel
theorem dX6_goOn_286 : decode cX6_goOn 286 = .ok (.getfield 15, 3) := by decide +kernel
theorem dX6_goOn_289 : decode cX6_goOn 289 = .ok (.aload_n 0, 1) := by decide +kernel
theorem dX6_goOn_290 : decode cX6_goOn 290 = .ok (.getfield 116, 3) := by decide +kernel
theorem dX6_goOn_293 : decode cX6_goOn 293 = .ok (.iaload, 1) := by decide +kernel
theorem dX6_goOn_294 : decode cX6_goOn 294 = .ok (.putfield 138, 3) := by decide +kernel
theorem dX6_goOn_297 : decode cX6_goOn 297 = .ok (.aload_n 0, 1) := by decide +kernel
theorem dX6_goOn_298 : decode cX6_goOn 298 = .ok (.aload_n 0, 1) := by decide +kernel
theorem dX6_goOn_299 : decode cX6_goOn 299 = .ok (.getfield 138, 3) := by decide +kernel
theorem dX6_goOn_302 : decode cX6_goOn 302 = .ok (.bipush 59, 2) := by decide +kernel
theorem dX6_goOn_304 : decode cX6_goOn 304 = .ok (.if_icmp .eq 21, 3) := by decide +kernel
theorem dX6_goOn_307 : decode cX6_goOn 307 = .ok (.aload_n 0, 1) := by decide +kernel
theorem dX6_goOn_308 : decode cX6_goOn 308 = .ok (.getfield 138, 3) := by decide +kernel
theorem dX6_goOn_311 : decode cX6_goOn 311 = .ok (.bipush 44, 2) := by decide +kernel
theorem dX6_goOn_313 : decode cX6_goOn 313 = .ok (.if_icmp .eq 12, 3) := by decide +kernel
theorem dX6_goOn_316 : decode cX6_goOn 316 = .ok (.aload_n 0, 1) := by decide +kernel
theorem dX6_goOn_317 : decode cX6_goOn 317 = .ok (.getfield 138, 3) := by decide +kernel
theorem dX6_goOn_320 : decode cX6_goOn 320 = .ok (.bipush 45, 2) := by decide +kernel
theorem dX6_goOn_322 : decode cX6_goOn 322 = .ok (.if_icmp .ne 7, 3) := by decide +kernel
theorem dX6_goOn_325 : decode cX6_goOn 325 = .ok (.iconst 4, 1) := by decide +kernel
theorem dX6_goOn_326 : decode cX6_goOn 326 = .ok (.goto 4, 3) := by decide +kernel
theorem dX6_goOn_329 : decode cX6_goOn 329 = .ok (.iconst 0, 1) := by decide +kernel
theorem dX6_goOn_330 : decode cX6_goOn 330 = .ok (.putfield 119, 3) := by decide +kernel
theorem dX6_goOn_333 : decode cX6_goOn 333 = .ok (.aload_n 0, 1) := by decide +kernel
theorem dX6_goOn_334 : decode cX6_goOn 334 = .ok (.dup, 1) := by decide +kernel
theorem dX6_goOn_335 : decode cX6_goOn 335 = .ok (.getfield 116, 3) := by decide +kernel
theorem dX6_goOn_338 : decode cX6_goOn 338 = .ok (.iconst 1, 1) := by decide +kernel
theorem dX6_goOn_339 : decode cX6_goOn 339 = .ok (.iadd, 1) := by decide +kernel
theorem dX6_goOn_340 : decode cX6_goOn 340 = .ok (.putfield 116, 3) := by decide +kernel
theorem dX6_goOn_343 : decode cX6_goOn 343 = .ok (.return_, 1) := by decide +kernel
theorem dX6_wordOf_0 : decode cX6_wordOf 0 = .ok (.lconst 0, 1) := by decide +kernel
theorem dX6_wordOf_1 : decode cX6_wordOf 1 = .ok (.lstore_n 1, 1) := by decide +kernel
theorem dX6_wordOf_2 : decode cX6_wordOf 2 = .ok (.iconst 0, 1) := by decide +kernel
theorem dX6_wordOf_3 : decode cX6_wordOf 3 = .ok (.istore_n 3, 1) := by decide +kernel
theorem dX6_wordOf_4 : decode cX6_wordOf 4 = .ok (.iload_n 3, 1) := by decide +kernel
theorem dX6_wordOf_5 : decode cX6_wordOf 5 = .ok (.aload_n 0, 1) := by decide +kernel
theorem dX6_wordOf_6 : decode cX6_wordOf 6 = .ok (.invokevirtual 141, 3) := by decide +kernel
theorem dX6_wordOf_9 : decode cX6_wordOf 9 = .ok (.if_icmp .ge 28, 3) := by decide +kernel
theorem dX6_wordOf_12 : decode cX6_wordOf 12 = .ok (.lload_n 1, 1) := by decide +kernel
theorem dX6_wordOf_13 : decode cX6_wordOf 13 = .ok (.ldc2_w 130, 3) := by decide +kernel
theorem dX6_wordOf_16 : decode cX6_wordOf 16 = .ok (.lmul, 1) := by decide +kernel
theorem dX6_wordOf_17 : decode cX6_wordOf 17 = .ok (.aload_n 0, 1) := by decide +kernel
theorem dX6_wordOf_18 : decode cX6_wordOf 18 = .ok (.iload_n 3, 1) := by decide +kernel
theorem dX6_wordOf_19 : decode cX6_wordOf 19 = .ok (.invokevirtual 147, 3) := by decide +kernel
theorem dX6_wordOf_22 : decode cX6_wordOf 22 = .ok (.i2l, 1) := by decide +kernel
theorem dX6_wordOf_23 : decode cX6_wordOf 23 = .ok (.ladd, 1) := by decide +kernel
theorem dX6_wordOf_24 : decode cX6_wordOf 24 = .ok (.ldc2_w 104, 3) := by decide +kernel
theorem dX6_wordOf_27 : decode cX6_wordOf 27 = .ok (.lsub, 1) := by decide +kernel
theorem dX6_wordOf_28 : decode cX6_wordOf 28 = .ok (.lconst 1, 1) := by decide +kernel
theorem dX6_wordOf_29 : decode cX6_wordOf 29 = .ok (.ladd, 1) := by decide +kernel
theorem dX6_wordOf_30 : decode cX6_wordOf 30 = .ok (.lstore_n 1, 1) := by decide +kernel
theorem dX6_wordOf_31 : decode cX6_wordOf 31 = .ok (.iinc 3 1, 3) := by decide +kernel
theorem dX6_wordOf_34 : decode cX6_wordOf 34 = .ok (.goto (-30), 3) := by decide +kernel
theorem dX6_wordOf_37 : decode cX6_wordOf 37 = .ok (.lload_n 1, 1) := by decide +kernel
theorem dX6_wordOf_38 : decode cX6_wordOf 38 = .ok (.lreturn, 1) := by decide +kernel
theorem dX6_isWord_0 : decode cX6_isWord 0 = .ok (.aload_n 0, 1) := by decide +kernel
theorem dX6_isWord_1 : decode cX6_isWord 1 = .ok (.getfield 92, 3) := by decide +kernel
theorem dX6_isWord_4 : decode cX6_isWord 4 = .ok (.ifCond .ne 27, 3) := by decide +kernel
theorem dX6_isWord_7 : decode cX6_isWord 7 = .ok (.aload_n 0, 1) := by decide +kernel
theorem dX6_isWord_8 : decode cX6_isWord 8 = .ok (.getfield 119, 3) := by decide +kernel
theorem dX6_isWord_11 : decode cX6_isWord 11 = .ok (.iconst 2, 1) := by decide +kernel
theorem dX6_isWord_12 : decode cX6_isWord 12 = .ok (.if_icmp .ne 19, 3) := by decide +kernel
theorem dX6_isWord_15 : decode cX6_isWord 15 = .ok (.aload_n 0, 1) := by decide +kernel
theorem dX6_isWord_16 : decode cX6_isWord 16 = .ok (.getfield 126, 3) := by decide +kernel
theorem dX6_isWord_19 : decode cX6_isWord 19 = .ok (.aload_n 1, 1) := by decide +kernel
theorem dX6_isWord_20 : decode cX6_isWord 20 = .ok (.invokestatic 151, 3) := by decide +kernel
theorem dX6_isWord_23 : decode cX6_isWord 23 = .ok (.lcmp, 1) := by decide +kernel
theorem dX6_isWord_24 : decode cX6_isWord 24 = .ok (.ifCond .ne 7, 3) := by decide +kernel
theorem dX6_isWord_27 : decode cX6_isWord 27 = .ok (.iconst 1, 1) := by decide +kernel
theorem dX6_isWord_28 : decode cX6_isWord 28 = .ok (.goto 4, 3) := by decide +kernel
theorem dX6_isWord_31 : decode cX6_isWord 31 = .ok (.iconst 0, 1) := by decide +kernel
theorem dX6_isWord_32 : decode cX6_isWord 32 = .ok (.ireturn, 1) := by decide +kernel
theorem dX6_isSign_0 : decode cX6_isSign 0 = .ok (.aload_n 0, 1) := by decide +kernel
theorem dX6_isSign_1 : decode cX6_isSign 1 = .ok (.getfield 92, 3) := by decide +kernel
theorem dX6_isSign_4 : decode cX6_isSign 4 = .ok (.ifCond .ne 23, 3) := by decide +kernel
theorem dX6_isSign_7 : decode cX6_isSign 7 = .ok (.aload_n 0, 1) := by decide +kernel
theorem dX6_isSign_8 : decode cX6_isSign 8 = .ok (.getfield 119, 3) := by decide +kernel
theorem dX6_isSign_11 : decode cX6_isSign 11 = .ok (.iconst 4, 1) := by decide +kernel
theorem dX6_isSign_12 : decode cX6_isSign 12 = .ok (.if_icmp .ne 15, 3) := by decide +kernel
theorem dX6_isSign_15 : decode cX6_isSign 15 = .ok (.aload_n 0, 1) := by decide +kernel
theorem dX6_isSign_16 : decode cX6_isSign 16 = .ok (.getfield 138, 3) := by decide +kernel
theorem dX6_isSign_19 : decode cX6_isSign 19 = .ok (.iload_n 1, 1) := by decide +kernel
theorem dX6_isSign_20 : decode cX6_isSign 20 = .ok (.if_icmp .ne 7, 3) := by decide +kernel
theorem dX6_isSign_23 : decode cX6_isSign 23 = .ok (.iconst 1, 1) := by decide +kernel
theorem dX6_isSign_24 : decode cX6_isSign 24 = .ok (.goto 4, 3) := by decide +kernel
theorem dX6_isSign_27 : decode cX6_isSign 27 = .ok (.iconst 0, 1) := by decide +kernel
theorem dX6_isSign_28 : decode cX6_isSign 28 = .ok (.ireturn, 1) := by decide +kernel
theorem dX6_needs_0 : decode cX6_needs 0 = .ok (.aload_n 0, 1) := by decide +kernel
theorem dX6_needs_1 : decode cX6_needs 1 = .ok (.aload_n 1, 1) := by decide +kernel
theorem dX6_needs_2 : decode cX6_needs 2 = .ok (.invokevirtual 155, 3) := by decide +kernel
theorem dX6_needs_5 : decode cX6_needs 5 = .ok (.ifCond .ne 8, 3) := by decide +kernel
theorem dX6_needs_8 : decode cX6_needs 8 = .ok (.aload_n 0, 1) := by decide +kernel
theorem dX6_needs_9 : decode cX6_needs 9 = .ok (.iconst 1, 1) := by decide +kernel
theorem dX6_needs_10 : decode cX6_needs 10 = .ok (.invokevirtual 159, 3) := by decide +kernel
theorem dX6_needs_13 : decode cX6_needs 13 = .ok (.aload_n 0, 1) := by decide +kernel
theorem dX6_needs_14 : decode cX6_needs 14 = .ok (.invokevirtual 163, 3) := by decide +kernel
theorem dX6_needs_17 : decode cX6_needs 17 = .ok (.return_, 1) := by decide +kernel
theorem dX6_isName_0 : decode cX6_isName 0 = .ok (.aload_n 0, 1) := by decide +kernel
theorem dX6_isName_1 : decode cX6_isName 1 = .ok (.getfield 92, 3) := by decide +kernel
theorem dX6_isName_4 : decode cX6_isName 4 = .ok (.ifCond .ne 51, 3) := by decide +kernel
theorem dX6_isName_7 : decode cX6_isName 7 = .ok (.aload_n 0, 1) := by decide +kernel
theorem dX6_isName_8 : decode cX6_isName 8 = .ok (.getfield 119, 3) := by decide +kernel
theorem dX6_isName_11 : decode cX6_isName 11 = .ok (.iconst 2, 1) := by decide +kernel
theorem dX6_isName_12 : decode cX6_isName 12 = .ok (.if_icmp .ne 43, 3) := by decide +kernel
theorem dX6_isName_15 : decode cX6_isName 15 = .ok (.aload_n 0, 1) := by decide +kernel
theorem dX6_isName_16 : decode cX6_isName 16 = .ok (.ldc 166, 2) := by decide +kernel
theorem dX6_isName_18 : decode cX6_isName 18 = .ok (.invokevirtual 155, 3) := by decide +kernel
theorem dX6_isName_21 : decode cX6_isName 21 = .ok (.ifCond .ne 34, 3) := by decide +kernel
theorem dX6_isName_24 : decode cX6_isName 24 = .ok (.aload_n 0, 1) := by decide +kernel
theorem dX6_isName_25 : decode cX6_isName 25 = .ok (.ldc 168, 2) := by decide +kernel
theorem dX6_isName_27 : decode cX6_isName 27 = .ok (.invokevirtual 155, 3) := by decide +kernel
theorem dX6_isName_30 : decode cX6_isName 30 = .ok (.ifCond .ne 25, 3) := by decide +kernel
theorem dX6_isName_33 : decode cX6_isName 33 = .ok (.aload_n 0, 1) := by decide +kernel
theorem dX6_isName_34 : decode cX6_isName 34 = .ok (.ldc 169, 2) := by decide +kernel
theorem dX6_isName_36 : decode cX6_isName 36 = .ok (.invokevirtual 155, 3) := by decide +kernel
theorem dX6_isName_39 : decode cX6_isName 39 = .ok (.ifCond .ne 16, 3) := by decide +kernel
theorem dX6_isName_42 : decode cX6_isName 42 = .ok (.aload_n 0, 1) := by decide +kernel
theorem dX6_isName_43 : decode cX6_isName 43 = .ok (.ldc 171, 2) := by decide +kernel
theorem dX6_isName_45 : decode cX6_isName 45 = .ok (.invokevirtual 155, 3) := by decide +kernel
theorem dX6_isName_48 : decode cX6_isName 48 = .ok (.ifCond .ne 7, 3) := by decide +kernel
theorem dX6_isName_51 : decode cX6_isName 51 = .ok (.iconst 1, 1) := by decide +kernel
theorem dX6_isName_52 : decode cX6_isName 52 = .ok (.goto 4, 3) := by decide +kernel
theorem dX6_isName_55 : decode cX6_isName 55 = .ok (.iconst 0, 1) := by decide +kernel
theorem dX6_isName_56 : decode cX6_isName 56 = .ok (.ireturn, 1) := by decide +kernel
theorem dX6_readInt_0 : decode cX6_readInt 0 = .ok (.aload_n 0, 1) := by decide +kernel
theorem dX6_readInt_1 : decode cX6_readInt 1 = .ok (.bipush 45, 2) := by decide +kernel
theorem dX6_readInt_3 : decode cX6_readInt 3 = .ok (.invokevirtual 173, 3) := by decide +kernel
theorem dX6_readInt_6 : decode cX6_readInt 6 = .ok (.istore_n 2, 1) := by decide +kernel
theorem dX6_readInt_7 : decode cX6_readInt 7 = .ok (.iload_n 2, 1) := by decide +kernel
theorem dX6_readInt_8 : decode cX6_readInt 8 = .ok (.ifCond .eq 7, 3) := by decide +kernel
theorem dX6_readInt_11 : decode cX6_readInt 11 = .ok (.aload_n 0, 1) := by decide +kernel
theorem dX6_readInt_12 : decode cX6_readInt 12 = .ok (.invokevirtual 163, 3) := by decide +kernel
theorem dX6_readInt_15 : decode cX6_readInt 15 = .ok (.aload_n 0, 1) := by decide +kernel
theorem dX6_readInt_16 : decode cX6_readInt 16 = .ok (.getfield 119, 3) := by decide +kernel
theorem dX6_readInt_19 : decode cX6_readInt 19 = .ok (.iconst 3, 1) := by decide +kernel
theorem dX6_readInt_20 : decode cX6_readInt 20 = .ok (.if_icmp .eq 11, 3) := by decide +kernel
theorem dX6_readInt_23 : decode cX6_readInt 23 = .ok (.aload_n 0, 1) := by decide +kernel
theorem dX6_readInt_24 : decode cX6_readInt 24 = .ok (.iconst 1, 1) := by decide +kernel
theorem dX6_readInt_25 : decode cX6_readInt 25 = .ok (.invokevirtual 159, 3) := by decide +kernel
theorem dX6_readInt_28 : decode cX6_readInt 28 = .ok (.goto 16, 3) := by decide +kernel
theorem dX6_readInt_31 : decode cX6_readInt 31 = .ok (.aload_n 0, 1) := by decide +kernel
theorem dX6_readInt_32 : decode cX6_readInt 32 = .ok (.getfield 135, 3) := by decide +kernel
theorem dX6_readInt_35 : decode cX6_readInt 35 = .ok (.iload_n 1, 1) := by decide +kernel
theorem dX6_readInt_36 : decode cX6_readInt 36 = .ok (.if_icmp .le 8, 3) := by decide +kernel
theorem dX6_readInt_39 : decode cX6_readInt 39 = .ok (.aload_n 0, 1) := by decide +kernel
theorem dX6_readInt_40 : decode cX6_readInt 40 = .ok (.iconst 2, 1) := by decide +kernel
theorem dX6_readInt_41 : decode cX6_readInt 41 = .ok (.invokevirtual 159, 3) := by decide +kernel
theorem dX6_readInt_44 : decode cX6_readInt 44 = .ok (.iload_n 2, 1) := by decide +kernel
theorem dX6_readInt_45 : decode cX6_readInt 45 = .ok (.ifCond .eq 11, 3) := by decide +kernel
theorem dX6_readInt_48 : decode cX6_readInt 48 = .ok (.aload_n 0, 1) := by decide +kernel
theorem dX6_readInt_49 : decode cX6_readInt 49 = .ok (.getfield 135, 3) := by decide +kernel
theorem dX6_readInt_52 : decode cX6_readInt 52 = .ok (.ineg, 1) := by decide +kernel
theorem dX6_readInt_53 : decode cX6_readInt 53 = .ok (.goto 7, 3) := by decide +kernel
theorem dX6_readInt_56 : decode cX6_readInt 56 = .ok (.aload_n 0, 1) := by decide +kernel
theorem dX6_readInt_57 : decode cX6_readInt 57 = .ok (.getfield 135, 3) := by decide +kernel
theorem dX6_readInt_60 : decode cX6_readInt 60 = .ok (.ireturn, 1) := by decide +kernel
theorem dX6_fault_0 : decode cX6_fault 0 = .ok (.aload_n 0, 1) := by decide +kernel
theorem dX6_fault_1 : decode cX6_fault 1 = .ok (.iconst 0, 1) := by decide +kernel
theorem dX6_fault_2 : decode cX6_fault 2 = .ok (.putfield 77, 3) := by decide +kernel
theorem dX6_fault_5 : decode cX6_fault 5 = .ok (.aload_n 0, 1) := by decide +kernel
theorem dX6_fault_6 : decode cX6_fault 6 = .ok (.getfield 92, 3) := by decide +kernel
theorem dX6_fault_9 : decode cX6_fault 9 = .ok (.ireturn, 1) := by decide +kernel
theorem dX6_where_0 : decode cX6_where 0 = .ok (.aload_n 0, 1) := by decide +kernel
theorem dX6_where_1 : decode cX6_where 1 = .ok (.iconst 0, 1) := by decide +kernel
theorem dX6_where_2 : decode cX6_where 2 = .ok (.putfield 77, 3) := by decide +kernel
theorem dX6_where_5 : decode cX6_where 5 = .ok (.aload_n 0, 1) := by decide +kernel
theorem dX6_where_6 : decode cX6_where 6 = .ok (.getfield 11, 3) := by decide +kernel
theorem dX6_where_9 : decode cX6_where 9 = .ok (.ireturn, 1) := by decide +kernel
theorem dX6_find_0 : decode cX6_find 0 = .ok (.iconst 0, 1) := by decide +kernel
theorem dX6_find_1 : decode cX6_find 1 = .ok (.istore 4, 2) := by decide +kernel
theorem dX6_find_3 : decode cX6_find 3 = .ok (.iload 4, 2) := by decide +kernel
theorem dX6_find_5 : decode cX6_find 5 = .ok (.iload_n 1, 1) := by decide +kernel
theorem dX6_find_6 : decode cX6_find 6 = .ok (.if_icmp .ge 21, 3) := by decide +kernel
theorem dX6_find_9 : decode cX6_find 9 = .ok (.aload_n 0, 1) := by decide +kernel
theorem dX6_find_10 : decode cX6_find 10 = .ok (.iload 4, 2) := by decide +kernel
theorem dX6_find_12 : decode cX6_find 12 = .ok (.laload, 1) := by decide +kernel
theorem dX6_find_13 : decode cX6_find 13 = .ok (.lload_n 2, 1) := by decide +kernel
theorem dX6_find_14 : decode cX6_find 14 = .ok (.lcmp, 1) := by decide +kernel
theorem dX6_find_15 : decode cX6_find 15 = .ok (.ifCond .ne 6, 3) := by decide +kernel
theorem dX6_find_18 : decode cX6_find 18 = .ok (.iload 4, 2) := by decide +kernel
theorem dX6_find_20 : decode cX6_find 20 = .ok (.ireturn, 1) := by decide +kernel
theorem dX6_find_21 : decode cX6_find 21 = .ok (.iinc 4 1, 3) := by decide +kernel
theorem dX6_find_24 : decode cX6_find 24 = .ok (.goto (-21), 3) := by decide +kernel
theorem dX6_find_27 : decode cX6_find 27 = .ok (.iconst (-1), 1) := by decide +kernel
theorem dX6_find_28 : decode cX6_find 28 = .ok (.ireturn, 1) := by decide +kernel
theorem dX6_readNew_0 : decode cX6_readNew 0 = .ok (.aload_n 0, 1) := by decide +kernel
theorem dX6_readNew_1 : decode cX6_readNew 1 = .ok (.invokevirtual 176, 3) := by decide +kernel
theorem dX6_readNew_4 : decode cX6_readNew 4 = .ok (.ifCond .ne 11, 3) := by decide +kernel
theorem dX6_readNew_7 : decode cX6_readNew 7 = .ok (.aload_n 0, 1) := by decide +kernel
theorem dX6_readNew_8 : decode cX6_readNew 8 = .ok (.iconst 1, 1) := by decide +kernel
theorem dX6_readNew_9 : decode cX6_readNew 9 = .ok (.invokevirtual 159, 3) := by decide +kernel
theorem dX6_readNew_12 : decode cX6_readNew 12 = .ok (.goto 46, 3) := by decide +kernel
theorem dX6_readNew_15 : decode cX6_readNew 15 = .ok (.aload_n 0, 1) := by decide +kernel
theorem dX6_readNew_16 : decode cX6_readNew 16 = .ok (.getfield 19, 3) := by decide +kernel
theorem dX6_readNew_19 : decode cX6_readNew 19 = .ok (.aload_n 0, 1) := by decide +kernel
theorem dX6_readNew_20 : decode cX6_readNew 20 = .ok (.getfield 180, 3) := by decide +kernel
theorem dX6_readNew_23 : decode cX6_readNew 23 = .ok (.aload_n 0, 1) := by decide +kernel
theorem dX6_readNew_24 : decode cX6_readNew 24 = .ok (.getfield 126, 3) := by decide +kernel
theorem dX6_readNew_27 : decode cX6_readNew 27 = .ok (.invokestatic 183, 3) := by decide +kernel
theorem dX6_readNew_30 : decode cX6_readNew 30 = .ok (.iconst (-1), 1) := by decide +kernel
theorem dX6_readNew_31 : decode cX6_readNew 31 = .ok (.if_icmp .ne 22, 3) := by decide +kernel
theorem dX6_readNew_34 : decode cX6_readNew 34 = .ok (.aload_n 0, 1) := by decide +kernel
theorem dX6_readNew_35 : decode cX6_readNew 35 = .ok (.getfield 23, 3) := by decide +kernel
theorem dX6_readNew_38 : decode cX6_readNew 38 = .ok (.aload_n 0, 1) := by decide +kernel
theorem dX6_readNew_39 : decode cX6_readNew 39 = .ok (.getfield 187, 3) := by decide +kernel
theorem dX6_readNew_42 : decode cX6_readNew 42 = .ok (.aload_n 0, 1) := by decide +kernel
theorem dX6_readNew_43 : decode cX6_readNew 43 = .ok (.getfield 126, 3) := by decide +kernel
theorem dX6_readNew_46 : decode cX6_readNew 46 = .ok (.invokestatic 183, 3) := by decide +kernel
theorem dX6_readNew_49 : decode cX6_readNew 49 = .ok (.iconst (-1), 1) := by decide +kernel
theorem dX6_readNew_50 : decode cX6_readNew 50 = .ok (.if_icmp .eq 8, 3) := by decide +kernel
theorem dX6_readNew_53 : decode cX6_readNew 53 = .ok (.aload_n 0, 1) := by decide +kernel
theorem dX6_readNew_54 : decode cX6_readNew 54 = .ok (.iconst 3, 1) := by decide +kernel
theorem dX6_readNew_55 : decode cX6_readNew 55 = .ok (.invokevirtual 159, 3) := by decide +kernel
theorem dX6_readNew_58 : decode cX6_readNew 58 = .ok (.aload_n 0, 1) := by decide +kernel
theorem dX6_readNew_59 : decode cX6_readNew 59 = .ok (.getfield 126, 3) := by decide +kernel
theorem dX6_readNew_62 : decode cX6_readNew 62 = .ok (.lstore_n 1, 1) := by decide +kernel
theorem dX6_readNew_63 : decode cX6_readNew 63 = .ok (.aload_n 0, 1) := by decide +kernel
theorem dX6_readNew_64 : decode cX6_readNew 64 = .ok (.invokevirtual 163, 3) := by decide +kernel
theorem dX6_readNew_67 : decode cX6_readNew 67 = .ok (.lload_n 1, 1) := by decide +kernel
theorem dX6_readNew_68 : decode cX6_readNew 68 = .ok (.lreturn, 1) := by decide +kernel
theorem dX6_isThere_0 : decode cX6_isThere 0 = .ok (.iconst 0, 1) := by decide +kernel
theorem dX6_isThere_1 : decode cX6_isThere 1 = .ok (.istore_n 3, 1) := by decide +kernel
theorem dX6_isThere_2 : decode cX6_isThere 2 = .ok (.iload_n 3, 1) := by decide +kernel
theorem dX6_isThere_3 : decode cX6_isThere 3 = .ok (.aload_n 0, 1) := by decide +kernel
theorem dX6_isThere_4 : decode cX6_isThere 4 = .ok (.getfield 180, 3) := by decide +kernel
theorem dX6_isThere_7 : decode cX6_isThere 7 = .ok (.if_icmp .ge 31, 3) := by decide +kernel
theorem dX6_isThere_10 : decode cX6_isThere 10 = .ok (.aload_n 0, 1) := by decide +kernel
theorem dX6_isThere_11 : decode cX6_isThere 11 = .ok (.getfield 29, 3) := by decide +kernel
theorem dX6_isThere_14 : decode cX6_isThere 14 = .ok (.iload_n 3, 1) := by decide +kernel
theorem dX6_isThere_15 : decode cX6_isThere 15 = .ok (.iaload, 1) := by decide +kernel
theorem dX6_isThere_16 : decode cX6_isThere 16 = .ok (.iload_n 1, 1) := by decide +kernel
theorem dX6_isThere_17 : decode cX6_isThere 17 = .ok (.if_icmp .ne 15, 3) := by decide +kernel
theorem dX6_isThere_20 : decode cX6_isThere 20 = .ok (.aload_n 0, 1) := by decide +kernel
theorem dX6_isThere_21 : decode cX6_isThere 21 = .ok (.getfield 32, 3) := by decide +kernel
theorem dX6_isThere_24 : decode cX6_isThere 24 = .ok (.iload_n 3, 1) := by decide +kernel
theorem dX6_isThere_25 : decode cX6_isThere 25 = .ok (.iaload, 1) := by decide +kernel
theorem dX6_isThere_26 : decode cX6_isThere 26 = .ok (.iload_n 2, 1) := by decide +kernel
theorem dX6_isThere_27 : decode cX6_isThere 27 = .ok (.if_icmp .ne 5, 3) := by decide +kernel
theorem dX6_isThere_30 : decode cX6_isThere 30 = .ok (.iconst 1, 1) := by decide +kernel
theorem dX6_isThere_31 : decode cX6_isThere 31 = .ok (.ireturn, 1) := by decide +kernel
theorem dX6_isThere_32 : decode cX6_isThere 32 = .ok (.iinc 3 1, 3) := by decide +kernel
theorem dX6_isThere_35 : decode cX6_isThere 35 = .ok (.goto (-33), 3) := by decide +kernel
theorem dX6_isThere_38 : decode cX6_isThere 38 = .ok (.iconst 0, 1) := by decide +kernel
theorem dX6_isThere_39 : decode cX6_isThere 39 = .ok (.ireturn, 1) := by decide +kernel
theorem dX6_readRay_0 : decode cX6_readRay 0 = .ok (.aload_n 0, 1) := by decide +kernel
theorem dX6_readRay_1 : decode cX6_readRay 1 = .ok (.getfield 180, 3) := by decide +kernel
theorem dX6_readRay_4 : decode cX6_readRay 4 = .ok (.bipush 12, 2) := by decide +kernel
theorem dX6_readRay_6 : decode cX6_readRay 6 = .ok (.if_icmp .ne 8, 3) := by decide +kernel
theorem dX6_readRay_9 : decode cX6_readRay 9 = .ok (.aload_n 0, 1) := by decide +kernel
theorem dX6_readRay_10 : decode cX6_readRay 10 = .ok (.iconst 4, 1) := by decide +kernel
theorem dX6_readRay_11 : decode cX6_readRay 11 = .ok (.invokevirtual 159, 3) := by decide +kernel
theorem dX6_readRay_14 : decode cX6_readRay 14 = .ok (.aload_n 0, 1) := by decide +kernel
theorem dX6_readRay_15 : decode cX6_readRay 15 = .ok (.invokevirtual 163, 3) := by decide +kernel
theorem dX6_readRay_18 : decode cX6_readRay 18 = .ok (.aload_n 0, 1) := by decide +kernel
theorem dX6_readRay_19 : decode cX6_readRay 19 = .ok (.invokevirtual 190, 3) := by decide +kernel
theorem dX6_readRay_22 : decode cX6_readRay 22 = .ok (.lstore_n 1, 1) := by decide +kernel
theorem dX6_readRay_23 : decode cX6_readRay 23 = .ok (.aload_n 0, 1) := by decide +kernel
theorem dX6_readRay_24 : decode cX6_readRay 24 = .ok (.ldc 168, 2) := by decide +kernel
theorem dX6_readRay_26 : decode cX6_readRay 26 = .ok (.invokevirtual 194, 3) := by decide +kernel
theorem dX6_readRay_29 : decode cX6_readRay 29 = .ok (.aload_n 0, 1) := by decide +kernel
theorem dX6_readRay_30 : decode cX6_readRay 30 = .ok (.bipush 9, 2) := by decide +kernel
theorem dX6_readRay_32 : decode cX6_readRay 32 = .ok (.invokevirtual 198, 3) := by decide +kernel
theorem dX6_readRay_35 : decode cX6_readRay 35 = .ok (.istore_n 3, 1) := by decide +kernel
theorem dX6_readRay_36 : decode cX6_readRay 36 = .ok (.aload_n 0, 1) := by decide +kernel
theorem dX6_readRay_37 : decode cX6_readRay 37 = .ok (.invokevirtual 163, 3) := by decide +kernel
theorem dX6_readRay_40 : decode cX6_readRay 40 = .ok (.aload_n 0, 1) := by decide +kernel
theorem dX6_readRay_41 : decode cX6_readRay 41 = .ok (.bipush 9, 2) := by decide +kernel
theorem dX6_readRay_43 : decode cX6_readRay 43 = .ok (.invokevirtual 198, 3) := by decide +kernel
theorem dX6_readRay_46 : decode cX6_readRay 46 = .ok (.istore 4, 2) := by decide +kernel
theorem dX6_readRay_48 : decode cX6_readRay 48 = .ok (.aload_n 0, 1) := by decide +kernel
theorem dX6_readRay_49 : decode cX6_readRay 49 = .ok (.getfield 92, 3) := by decide +kernel
theorem dX6_readRay_52 : decode cX6_readRay 52 = .ok (.ifCond .ne 31, 3) := by decide +kernel
theorem dX6_readRay_55 : decode cX6_readRay 55 = .ok (.iload_n 3, 1) := by decide +kernel
theorem dX6_readRay_56 : decode cX6_readRay 56 = .ok (.i2l, 1) := by decide +kernel
theorem dX6_readRay_57 : decode cX6_readRay 57 = .ok (.iload 4, 2) := by decide +kernel
theorem dX6_readRay_59 : decode cX6_readRay 59 = .ok (.i2l, 1) := by decide +kernel
theorem dX6_readRay_60 : decode cX6_readRay 60 = .ok (.invokestatic 202, 3) := by decide +kernel
theorem dX6_readRay_63 : decode cX6_readRay 63 = .ok (.lconst 1, 1) := by decide +kernel
theorem dX6_readRay_64 : decode cX6_readRay 64 = .ok (.lcmp, 1) := by decide +kernel
theorem dX6_readRay_65 : decode cX6_readRay 65 = .ok (.ifCond .ne 13, 3) := by decide +kernel
theorem dX6_readRay_68 : decode cX6_readRay 68 = .ok (.aload_n 0, 1) := by decide +kernel
theorem dX6_readRay_69 : decode cX6_readRay 69 = .ok (.iload_n 3, 1) := by decide +kernel
theorem dX6_readRay_70 : decode cX6_readRay 70 = .ok (.iload 4, 2) := by decide +kernel
theorem dX6_readRay_72 : decode cX6_readRay 72 = .ok (.invokevirtual 205, 3) := by decide +kernel
theorem dX6_readRay_75 : decode cX6_readRay 75 = .ok (.ifCond .eq 8, 3) := by decide +kernel
theorem dX6_readRay_78 : decode cX6_readRay 78 = .ok (.aload_n 0, 1) := by decide +kernel
theorem dX6_readRay_79 : decode cX6_readRay 79 = .ok (.iconst 2, 1) := by decide +kernel
theorem dX6_readRay_80 : decode cX6_readRay 80 = .ok (.invokevirtual 159, 3) := by decide +kernel
theorem dX6_readRay_83 : decode cX6_readRay 83 = .ok (.aload_n 0, 1) := by decide +kernel
theorem dX6_readRay_84 : decode cX6_readRay 84 = .ok (.invokevirtual 163, 3) := by decide +kernel
theorem dX6_readRay_87 : decode cX6_readRay 87 = .ok (.aload_n 0, 1) := by decide +kernel
theorem dX6_readRay_88 : decode cX6_readRay 88 = .ok (.getfield 92, 3) := by decide +kernel
theorem dX6_readRay_91 : decode cX6_readRay 91 = .ok (.ifCond .le 4, 3) := by decide +kernel
theorem dX6_readRay_94 : decode cX6_readRay 94 = .ok (.return_, 1) := by decide +kernel
theorem dX6_readRay_95 : decode cX6_readRay 95 = .ok (.aload_n 0, 1) := by decide +kernel
theorem dX6_readRay_96 : decode cX6_readRay 96 = .ok (.getfield 19, 3) := by decide +kernel
theorem dX6_readRay_99 : decode cX6_readRay 99 = .ok (.aload_n 0, 1) := by decide +kernel
theorem dX6_readRay_100 : decode cX6_readRay 100 = .ok (.getfield 180, 3) := by decide +kernel
theorem dX6_readRay_103 : decode cX6_readRay 103 = .ok (.lload_n 1, 1) := by decide +kernel
theorem dX6_readRay_104 : decode cX6_readRay 104 = .ok (.lastore, 1) := by decide +kernel
theorem dX6_readRay_105 : decode cX6_readRay 105 = .ok (.aload_n 0, 1) := by decide +kernel
theorem dX6_readRay_106 : decode cX6_readRay 106 = .ok (.getfield 29, 3) := by decide +kernel
theorem dX6_readRay_109 : decode cX6_readRay 109 = .ok (.aload_n 0, 1) := by decide +kernel
theorem dX6_readRay_110 : decode cX6_readRay 110 = .ok (.getfield 180, 3) := by decide +kernel
theorem dX6_readRay_113 : decode cX6_readRay 113 = .ok (.iload_n 3, 1) := by decide +kernel
theorem dX6_readRay_114 : decode cX6_readRay 114 = .ok (.iastore, 1) := by decide +kernel
theorem dX6_readRay_115 : decode cX6_readRay 115 = .ok (.aload_n 0, 1) := by decide +kernel
theorem dX6_readRay_116 : decode cX6_readRay 116 = .ok (.getfield 32, 3) := by decide +kernel
theorem dX6_readRay_119 : decode cX6_readRay 119 = .ok (.aload_n 0, 1) := by decide +kernel
theorem dX6_readRay_120 : decode cX6_readRay 120 = .ok (.getfield 180, 3) := by decide +kernel
theorem dX6_readRay_123 : decode cX6_readRay 123 = .ok (.iload 4, 2) := by decide +kernel
theorem dX6_readRay_125 : decode cX6_readRay 125 = .ok (.iastore, 1) := by decide +kernel
theorem dX6_readRay_126 : decode cX6_readRay 126 = .ok (.aload_n 0, 1) := by decide +kernel
theorem dX6_readRay_127 : decode cX6_readRay 127 = .ok (.dup, 1) := by decide +kernel
theorem dX6_readRay_128 : decode cX6_readRay 128 = .ok (.getfield 180, 3) := by decide +kernel
theorem dX6_readRay_131 : decode cX6_readRay 131 = .ok (.iconst 1, 1) := by decide +kernel
theorem dX6_readRay_132 : decode cX6_readRay 132 = .ok (.iadd, 1) := by decide +kernel
theorem dX6_readRay_133 : decode cX6_readRay 133 = .ok (.putfield 180, 3) := by decide +kernel
theorem dX6_readRay_136 : decode cX6_readRay 136 = .ok (.return_, 1) := by decide +kernel
theorem dX6_readOn_0 : decode cX6_readOn 0 = .ok (.aload_n 0, 1) := by decide +kernel
theorem dX6_readOn_1 : decode cX6_readOn 1 = .ok (.bipush 20, 2) := by decide +kernel
theorem dX6_readOn_3 : decode cX6_readOn 3 = .ok (.invokevirtual 198, 3) := by decide +kernel
theorem dX6_readOn_6 : decode cX6_readOn 6 = .ok (.istore_n 2, 1) := by decide +kernel
theorem dX6_readOn_7 : decode cX6_readOn 7 = .ok (.aload_n 0, 1) := by decide +kernel
theorem dX6_readOn_8 : decode cX6_readOn 8 = .ok (.invokevirtual 163, 3) := by decide +kernel
theorem dX6_readOn_11 : decode cX6_readOn 11 = .ok (.aload_n 0, 1) := by decide +kernel
theorem dX6_readOn_12 : decode cX6_readOn 12 = .ok (.ldc 171, 2) := by decide +kernel
theorem dX6_readOn_14 : decode cX6_readOn 14 = .ok (.invokevirtual 194, 3) := by decide +kernel
theorem dX6_readOn_17 : decode cX6_readOn 17 = .ok (.aload_n 0, 1) := by decide +kernel
theorem dX6_readOn_18 : decode cX6_readOn 18 = .ok (.invokevirtual 176, 3) := by decide +kernel
theorem dX6_readOn_21 : decode cX6_readOn 21 = .ok (.ifCond .eq 21, 3) := by decide +kernel
theorem dX6_readOn_24 : decode cX6_readOn 24 = .ok (.aload_n 0, 1) := by decide +kernel
theorem dX6_readOn_25 : decode cX6_readOn 25 = .ok (.getfield 19, 3) := by decide +kernel
theorem dX6_readOn_28 : decode cX6_readOn 28 = .ok (.aload_n 0, 1) := by decide +kernel
theorem dX6_readOn_29 : decode cX6_readOn 29 = .ok (.getfield 180, 3) := by decide +kernel
theorem dX6_readOn_32 : decode cX6_readOn 32 = .ok (.aload_n 0, 1) := by decide +kernel
theorem dX6_readOn_33 : decode cX6_readOn 33 = .ok (.getfield 126, 3) := by decide +kernel
theorem dX6_readOn_36 : decode cX6_readOn 36 = .ok (.invokestatic 183, 3) := by decide +kernel
theorem dX6_readOn_39 : decode cX6_readOn 39 = .ok (.goto 4, 3) := by decide +kernel
theorem dX6_readOn_42 : decode cX6_readOn 42 = .ok (.iconst (-1), 1) := by decide +kernel
theorem dX6_readOn_43 : decode cX6_readOn 43 = .ok (.istore_n 3, 1) := by decide +kernel
theorem dX6_readOn_44 : decode cX6_readOn 44 = .ok (.aload_n 0, 1) := by decide +kernel
theorem dX6_readOn_45 : decode cX6_readOn 45 = .ok (.invokevirtual 176, 3) := by decide +kernel
theorem dX6_readOn_48 : decode cX6_readOn 48 = .ok (.ifCond .ne 11, 3) := by decide +kernel
theorem dX6_readOn_51 : decode cX6_readOn 51 = .ok (.aload_n 0, 1) := by decide +kernel
theorem dX6_readOn_52 : decode cX6_readOn 52 = .ok (.iconst 1, 1) := by decide +kernel
theorem dX6_readOn_53 : decode cX6_readOn 53 = .ok (.invokevirtual 159, 3) := by decide +kernel
theorem dX6_readOn_56 : decode cX6_readOn 56 = .ok (.goto 27, 3) := by decide +kernel
theorem dX6_readOn_59 : decode cX6_readOn 59 = .ok (.iload_n 3, 1) := by decide +kernel
theorem dX6_readOn_60 : decode cX6_readOn 60 = .ok (.iconst (-1), 1) := by decide +kernel
theorem dX6_readOn_61 : decode cX6_readOn 61 = .ok (.if_icmp .eq 17, 3) := by decide +kernel
theorem dX6_readOn_64 : decode cX6_readOn 64 = .ok (.aload_n 0, 1) := by decide +kernel
theorem dX6_readOn_65 : decode cX6_readOn 65 = .ok (.getfield 38, 3) := by decide +kernel
theorem dX6_readOn_68 : decode cX6_readOn 68 = .ok (.iload_n 1, 1) := by decide +kernel
theorem dX6_readOn_69 : decode cX6_readOn 69 = .ok (.iaload, 1) := by decide +kernel
theorem dX6_readOn_70 : decode cX6_readOn 70 = .ok (.iload_n 3, 1) := by decide +kernel
theorem dX6_readOn_71 : decode cX6_readOn 71 = .ok (.ishr, 1) := by decide +kernel
theorem dX6_readOn_72 : decode cX6_readOn 72 = .ok (.iconst 1, 1) := by decide +kernel
theorem dX6_readOn_73 : decode cX6_readOn 73 = .ok (.iand, 1) := by decide +kernel
theorem dX6_readOn_74 : decode cX6_readOn 74 = .ok (.iconst 1, 1) := by decide +kernel
theorem dX6_readOn_75 : decode cX6_readOn 75 = .ok (.if_icmp .ne 8, 3) := by decide +kernel
theorem dX6_readOn_78 : decode cX6_readOn 78 = .ok (.aload_n 0, 1) := by decide +kernel
theorem dX6_readOn_79 : decode cX6_readOn 79 = .ok (.iconst 3, 1) := by decide +kernel
theorem dX6_readOn_80 : decode cX6_readOn 80 = .ok (.invokevirtual 159, 3) := by decide +kernel
theorem dX6_readOn_83 : decode cX6_readOn 83 = .ok (.aload_n 0, 1) := by decide +kernel
theorem dX6_readOn_84 : decode cX6_readOn 84 = .ok (.invokevirtual 163, 3) := by decide +kernel
theorem dX6_readOn_87 : decode cX6_readOn 87 = .ok (.aload_n 0, 1) := by decide +kernel
theorem dX6_readOn_88 : decode cX6_readOn 88 = .ok (.getfield 92, 3) := by decide +kernel
theorem dX6_readOn_91 : decode cX6_readOn 91 = .ok (.ifCond .le 4, 3) := by decide +kernel
theorem dX6_readOn_94 : decode cX6_readOn 94 = .ok (.return_, 1) := by decide +kernel
theorem dX6_readOn_95 : decode cX6_readOn 95 = .ok (.aload_n 0, 1) := by decide +kernel
theorem dX6_readOn_96 : decode cX6_readOn 96 = .ok (.getfield 38, 3) := by decide +kernel
theorem dX6_readOn_99 : decode cX6_readOn 99 = .ok (.iload_n 1, 1) := by decide +kernel
theorem dX6_readOn_100 : decode cX6_readOn 100 = .ok (.dup2, 1) := by decide +kernel
theorem dX6_readOn_101 : decode cX6_readOn 101 = .ok (.iaload, 1) := by decide +kernel
theorem dX6_readOn_102 : decode cX6_readOn 102 = .ok (.iconst 1, 1) := by decide +kernel
theorem dX6_readOn_103 : decode cX6_readOn 103 = .ok (.iload_n 3, 1) := by decide +kernel
theorem dX6_readOn_104 : decode cX6_readOn 104 = .ok (.ishl, 1) := by decide +kernel
theorem dX6_readOn_105 : decode cX6_readOn 105 = .ok (.ior, 1) := by decide +kernel
theorem dX6_readOn_106 : decode cX6_readOn 106 = .ok (.iastore, 1) := by decide +kernel
theorem dX6_readOn_107 : decode cX6_readOn 107 = .ok (.aload_n 0, 1) := by decide +kernel
theorem dX6_readOn_108 : decode cX6_readOn 108 = .ok (.getfield 35, 3) := by decide +kernel
theorem dX6_readOn_111 : decode cX6_readOn 111 = .ok (.bipush 12, 2) := by decide +kernel
theorem dX6_readOn_113 : decode cX6_readOn 113 = .ok (.iload_n 1, 1) := by decide +kernel
theorem dX6_readOn_114 : decode cX6_readOn 114 = .ok (.imul, 1) := by decide +kernel
theorem dX6_readOn_115 : decode cX6_readOn 115 = .ok (.iload_n 3, 1) := by decide +kernel
theorem dX6_readOn_116 : decode cX6_readOn 116 = .ok (.iadd, 1) := by decide +kernel
theorem dX6_readOn_117 : decode cX6_readOn 117 = .ok (.iload_n 2, 1) := by decide +kernel
theorem dX6_readOn_118 : decode cX6_readOn 118 = .ok (.iastore, 1) := by decide +kernel
theorem dX6_readOn_119 : decode cX6_readOn 119 = .ok (.return_, 1) := by decide +kernel
theorem dX6_readLoad_0 : decode cX6_readLoad 0 = .ok (.aload_n 0, 1) := by decide +kernel
theorem dX6_readLoad_1 : decode cX6_readLoad 1 = .ok (.getfield 187, 3) := by decide +kernel
theorem dX6_readLoad_4 : decode cX6_readLoad 4 = .ok (.bipush 6, 2) := by decide +kernel
theorem dX6_readLoad_6 : decode cX6_readLoad 6 = .ok (.if_icmp .ne 8, 3) := by decide +kernel
theorem dX6_readLoad_9 : decode cX6_readLoad 9 = .ok (.aload_n 0, 1) := by decide +kernel
theorem dX6_readLoad_10 : decode cX6_readLoad 10 = .ok (.iconst 4, 1) := by decide +kernel
theorem dX6_readLoad_11 : decode cX6_readLoad 11 = .ok (.invokevirtual 159, 3) := by decide +kernel
theorem dX6_readLoad_14 : decode cX6_readLoad 14 = .ok (.aload_n 0, 1) := by decide +kernel
theorem dX6_readLoad_15 : decode cX6_readLoad 15 = .ok (.invokevirtual 163, 3) := by decide +kernel
theorem dX6_readLoad_18 : decode cX6_readLoad 18 = .ok (.aload_n 0, 1) := by decide +kernel
theorem dX6_readLoad_19 : decode cX6_readLoad 19 = .ok (.invokevirtual 190, 3) := by decide +kernel
theorem dX6_readLoad_22 : decode cX6_readLoad 22 = .ok (.lstore_n 1, 1) := by decide +kernel
theorem dX6_readLoad_23 : decode cX6_readLoad 23 = .ok (.aload_n 0, 1) := by decide +kernel
theorem dX6_readLoad_24 : decode cX6_readLoad 24 = .ok (.getfield 92, 3) := by decide +kernel
theorem dX6_readLoad_27 : decode cX6_readLoad 27 = .ok (.ifCond .le 4, 3) := by decide +kernel
theorem dX6_readLoad_30 : decode cX6_readLoad 30 = .ok (.return_, 1) := by decide +kernel
theorem dX6_readLoad_31 : decode cX6_readLoad 31 = .ok (.aload_n 0, 1) := by decide +kernel
theorem dX6_readLoad_32 : decode cX6_readLoad 32 = .ok (.getfield 187, 3) := by decide +kernel
theorem dX6_readLoad_35 : decode cX6_readLoad 35 = .ok (.istore_n 3, 1) := by decide +kernel
theorem dX6_readLoad_36 : decode cX6_readLoad 36 = .ok (.aload_n 0, 1) := by decide +kernel
theorem dX6_readLoad_37 : decode cX6_readLoad 37 = .ok (.getfield 38, 3) := by decide +kernel
theorem dX6_readLoad_40 : decode cX6_readLoad 40 = .ok (.iload_n 3, 1) := by decide +kernel
theorem dX6_readLoad_41 : decode cX6_readLoad 41 = .ok (.iconst 0, 1) := by decide +kernel
theorem dX6_readLoad_42 : decode cX6_readLoad 42 = .ok (.iastore, 1) := by decide +kernel
theorem dX6_readLoad_43 : decode cX6_readLoad 43 = .ok (.iconst 0, 1) := by decide +kernel
theorem dX6_readLoad_44 : decode cX6_readLoad 44 = .ok (.istore 4, 2) := by decide +kernel
theorem dX6_readLoad_46 : decode cX6_readLoad 46 = .ok (.iload 4, 2) := by decide +kernel
theorem dX6_readLoad_48 : decode cX6_readLoad 48 = .ok (.bipush 12, 2) := by decide +kernel
theorem dX6_readLoad_50 : decode cX6_readLoad 50 = .ok (.if_icmp .ge 22, 3) := by decide +kernel
theorem dX6_readLoad_53 : decode cX6_readLoad 53 = .ok (.aload_n 0, 1) := by decide +kernel
theorem dX6_readLoad_54 : decode cX6_readLoad 54 = .ok (.getfield 35, 3) := by decide +kernel
theorem dX6_readLoad_57 : decode cX6_readLoad 57 = .ok (.bipush 12, 2) := by decide +kernel
theorem dX6_readLoad_59 : decode cX6_readLoad 59 = .ok (.iload_n 3, 1) := by decide +kernel
theorem dX6_readLoad_60 : decode cX6_readLoad 60 = .ok (.imul, 1) := by decide +kernel
theorem dX6_readLoad_61 : decode cX6_readLoad 61 = .ok (.iload 4, 2) := by decide +kernel
theorem dX6_readLoad_63 : decode cX6_readLoad 63 = .ok (.iadd, 1) := by decide +kernel
theorem dX6_readLoad_64 : decode cX6_readLoad 64 = .ok (.iconst 0, 1) := by decide +kernel
theorem dX6_readLoad_65 : decode cX6_readLoad 65 = .ok (.iastore, 1) := by decide +kernel
theorem dX6_readLoad_66 : decode cX6_readLoad 66 = .ok (.iinc 4 1, 3) := by decide +kernel
theorem dX6_readLoad_69 : decode cX6_readLoad 69 = .ok (.goto (-23), 3) := by decide +kernel
theorem dX6_readLoad_72 : decode cX6_readLoad 72 = .ok (.aload_n 0, 1) := by decide +kernel
theorem dX6_readLoad_73 : decode cX6_readLoad 73 = .ok (.iload_n 3, 1) := by decide +kernel
theorem dX6_readLoad_74 : decode cX6_readLoad 74 = .ok (.invokevirtual 209, 3) := by decide +kernel
theorem dX6_readLoad_77 : decode cX6_readLoad 77 = .ok (.aload_n 0, 1) := by decide +kernel
theorem dX6_readLoad_78 : decode cX6_readLoad 78 = .ok (.bipush 44, 2) := by decide +kernel
theorem dX6_readLoad_80 : decode cX6_readLoad 80 = .ok (.invokevirtual 173, 3) := by decide +kernel
theorem dX6_readLoad_83 : decode cX6_readLoad 83 = .ok (.ifCond .eq 15, 3) := by decide +kernel
theorem dX6_readLoad_86 : decode cX6_readLoad 86 = .ok (.aload_n 0, 1) := by decide +kernel
theorem dX6_readLoad_87 : decode cX6_readLoad 87 = .ok (.invokevirtual 163, 3) := by decide +kernel
theorem dX6_readLoad_90 : decode cX6_readLoad 90 = .ok (.aload_n 0, 1) := by decide +kernel
theorem dX6_readLoad_91 : decode cX6_readLoad 91 = .ok (.iload_n 3, 1) := by decide +kernel
theorem dX6_readLoad_92 : decode cX6_readLoad 92 = .ok (.invokevirtual 209, 3) := by decide +kernel
theorem dX6_readLoad_95 : decode cX6_readLoad 95 = .ok (.goto (-18), 3) := by decide +kernel
theorem dX6_readLoad_98 : decode cX6_readLoad 98 = .ok (.aload_n 0, 1) := by decide +kernel
theorem dX6_readLoad_99 : decode cX6_readLoad 99 = .ok (.getfield 23, 3) := by decide +kernel
theorem dX6_readLoad_102 : decode cX6_readLoad 102 = .ok (.iload_n 3, 1) := by decide +kernel
theorem dX6_readLoad_103 : decode cX6_readLoad 103 = .ok (.lload_n 1, 1) := by decide +kernel
theorem dX6_readLoad_104 : decode cX6_readLoad 104 = .ok (.lastore, 1) := by decide +kernel
theorem dX6_readLoad_105 : decode cX6_readLoad 105 = .ok (.aload_n 0, 1) := by decide +kernel
theorem dX6_readLoad_106 : decode cX6_readLoad 106 = .ok (.dup, 1) := by decide +kernel
theorem dX6_readLoad_107 : decode cX6_readLoad 107 = .ok (.getfield 187, 3) := by decide +kernel
theorem dX6_readLoad_110 : decode cX6_readLoad 110 = .ok (.iconst 1, 1) := by decide +kernel
theorem dX6_readLoad_111 : decode cX6_readLoad 111 = .ok (.iadd, 1) := by decide +kernel
theorem dX6_readLoad_112 : decode cX6_readLoad 112 = .ok (.putfield 187, 3) := by decide +kernel
theorem dX6_readLoad_115 : decode cX6_readLoad 115 = .ok (.return_, 1) := by decide +kernel
theorem dX6_readLine_0 : decode cX6_readLine 0 = .ok (.aload_n 0, 1) := by decide +kernel
theorem dX6_readLine_1 : decode cX6_readLine 1 = .ok (.ldc 166, 2) := by decide +kernel
theorem dX6_readLine_3 : decode cX6_readLine 3 = .ok (.invokevirtual 155, 3) := by decide +kernel
theorem dX6_readLine_6 : decode cX6_readLine 6 = .ok (.ifCond .eq 10, 3) := by decide +kernel
theorem dX6_readLine_9 : decode cX6_readLine 9 = .ok (.aload_n 0, 1) := by decide +kernel
theorem dX6_readLine_10 : decode cX6_readLine 10 = .ok (.invokevirtual 212, 3) := by decide +kernel
theorem dX6_readLine_13 : decode cX6_readLine 13 = .ok (.goto 24, 3) := by decide +kernel
theorem dX6_readLine_16 : decode cX6_readLine 16 = .ok (.aload_n 0, 1) := by decide +kernel
theorem dX6_readLine_17 : decode cX6_readLine 17 = .ok (.ldc 169, 2) := by decide +kernel
theorem dX6_readLine_19 : decode cX6_readLine 19 = .ok (.invokevirtual 155, 3) := by decide +kernel
theorem dX6_readLine_22 : decode cX6_readLine 22 = .ok (.ifCond .eq 10, 3) := by decide +kernel
theorem dX6_readLine_25 : decode cX6_readLine 25 = .ok (.aload_n 0, 1) := by decide +kernel
theorem dX6_readLine_26 : decode cX6_readLine 26 = .ok (.invokevirtual 215, 3) := by decide +kernel
theorem dX6_readLine_29 : decode cX6_readLine 29 = .ok (.goto 8, 3) := by decide +kernel
theorem dX6_readLine_32 : decode cX6_readLine 32 = .ok (.aload_n 0, 1) := by decide +kernel
theorem dX6_readLine_33 : decode cX6_readLine 33 = .ok (.iconst 1, 1) := by decide +kernel
theorem dX6_readLine_34 : decode cX6_readLine 34 = .ok (.invokevirtual 159, 3) := by decide +kernel
theorem dX6_readLine_37 : decode cX6_readLine 37 = .ok (.return_, 1) := by decide +kernel
theorem dX6_readAll_0 : decode cX6_readAll 0 = .ok (.aload_n 0, 1) := by decide +kernel
theorem dX6_readAll_1 : decode cX6_readAll 1 = .ok (.iconst 0, 1) := by decide +kernel
theorem dX6_readAll_2 : decode cX6_readAll 2 = .ok (.putfield 180, 3) := by decide +kernel
theorem dX6_readAll_5 : decode cX6_readAll 5 = .ok (.aload_n 0, 1) := by decide +kernel
theorem dX6_readAll_6 : decode cX6_readAll 6 = .ok (.iconst 0, 1) := by decide +kernel
theorem dX6_readAll_7 : decode cX6_readAll 7 = .ok (.putfield 187, 3) := by decide +kernel
theorem dX6_readAll_10 : decode cX6_readAll 10 = .ok (.aload_n 0, 1) := by decide +kernel
theorem dX6_readAll_11 : decode cX6_readAll 11 = .ok (.invokevirtual 163, 3) := by decide +kernel
theorem dX6_readAll_14 : decode cX6_readAll 14 = .ok (.aload_n 0, 1) := by decide +kernel
theorem dX6_readAll_15 : decode cX6_readAll 15 = .ok (.invokevirtual 218, 3) := by decide +kernel
theorem dX6_readAll_18 : decode cX6_readAll 18 = .ok (.aload_n 0, 1) := by decide +kernel
theorem dX6_readAll_19 : decode cX6_readAll 19 = .ok (.bipush 59, 2) := by decide +kernel
theorem dX6_readAll_21 : decode cX6_readAll 21 = .ok (.invokevirtual 173, 3) := by decide +kernel
theorem dX6_readAll_24 : decode cX6_readAll 24 = .ok (.ifCond .eq 14, 3) := by decide +kernel
theorem dX6_readAll_27 : decode cX6_readAll 27 = .ok (.aload_n 0, 1) := by decide +kernel
theorem dX6_readAll_28 : decode cX6_readAll 28 = .ok (.invokevirtual 163, 3) := by decide +kernel
theorem dX6_readAll_31 : decode cX6_readAll 31 = .ok (.aload_n 0, 1) := by decide +kernel
theorem dX6_readAll_32 : decode cX6_readAll 32 = .ok (.invokevirtual 218, 3) := by decide +kernel
theorem dX6_readAll_35 : decode cX6_readAll 35 = .ok (.goto (-17), 3) := by decide +kernel
theorem dX6_readAll_38 : decode cX6_readAll 38 = .ok (.aload_n 0, 1) := by decide +kernel
theorem dX6_readAll_39 : decode cX6_readAll 39 = .ok (.getfield 92, 3) := by decide +kernel
theorem dX6_readAll_42 : decode cX6_readAll 42 = .ok (.ifCond .ne 16, 3) := by decide +kernel
theorem dX6_readAll_45 : decode cX6_readAll 45 = .ok (.aload_n 0, 1) := by decide +kernel
theorem dX6_readAll_46 : decode cX6_readAll 46 = .ok (.getfield 119, 3) := by decide +kernel
theorem dX6_readAll_49 : decode cX6_readAll 49 = .ok (.iconst 1, 1) := by decide +kernel
theorem dX6_readAll_50 : decode cX6_readAll 50 = .ok (.if_icmp .eq 8, 3) := by decide +kernel
theorem dX6_readAll_53 : decode cX6_readAll 53 = .ok (.aload_n 0, 1) := by decide +kernel
theorem dX6_readAll_54 : decode cX6_readAll 54 = .ok (.iconst 1, 1) := by decide +kernel
theorem dX6_readAll_55 : decode cX6_readAll 55 = .ok (.invokevirtual 159, 3) := by decide +kernel
theorem dX6_readAll_58 : decode cX6_readAll 58 = .ok (.aload_n 0, 1) := by decide +kernel
theorem dX6_readAll_59 : decode cX6_readAll 59 = .ok (.getfield 92, 3) := by decide +kernel
theorem dX6_readAll_62 : decode cX6_readAll 62 = .ok (.ifCond .le 4, 3) := by decide +kernel
theorem dX6_readAll_65 : decode cX6_readAll 65 = .ok (.return_, 1) := by decide +kernel
theorem dX6_readAll_66 : decode cX6_readAll 66 = .ok (.aload_n 0, 1) := by decide +kernel
theorem dX6_readAll_67 : decode cX6_readAll 67 = .ok (.invokevirtual 221, 3) := by decide +kernel
theorem dX6_readAll_70 : decode cX6_readAll 70 = .ok (.aload_n 0, 1) := by decide +kernel
theorem dX6_readAll_71 : decode cX6_readAll 71 = .ok (.getfield 224, 3) := by decide +kernel
theorem dX6_readAll_74 : decode cX6_readAll 74 = .ok (.iconst 3, 1) := by decide +kernel
theorem dX6_readAll_75 : decode cX6_readAll 75 = .ok (.if_icmp .lt 7, 3) := by decide +kernel
theorem dX6_readAll_78 : decode cX6_readAll 78 = .ok (.iconst 1, 1) := by decide +kernel
theorem dX6_readAll_79 : decode cX6_readAll 79 = .ok (.goto 4, 3) := by decide +kernel
theorem dX6_readAll_82 : decode cX6_readAll 82 = .ok (.iconst 0, 1) := by decide +kernel
theorem dX6_readAll_83 : decode cX6_readAll 83 = .ok (.istore_n 1, 1) := by decide +kernel
theorem dX6_readAll_84 : decode cX6_readAll 84 = .ok (.iconst 0, 1) := by decide +kernel
theorem dX6_readAll_85 : decode cX6_readAll 85 = .ok (.istore_n 2, 1) := by decide +kernel
theorem dX6_readAll_86 : decode cX6_readAll 86 = .ok (.iload_n 1, 1) := by decide +kernel
theorem dX6_readAll_87 : decode cX6_readAll 87 = .ok (.ifCond .eq 67, 3) := by decide +kernel
theorem dX6_readAll_90 : decode cX6_readAll 90 = .ok (.iload_n 2, 1) := by decide +kernel
theorem dX6_readAll_91 : decode cX6_readAll 91 = .ok (.aload_n 0, 1) := by decide +kernel
theorem dX6_readAll_92 : decode cX6_readAll 92 = .ok (.getfield 224, 3) := by decide +kernel
theorem dX6_readAll_95 : decode cX6_readAll 95 = .ok (.if_icmp .ge 59, 3) := by decide +kernel
theorem dX6_readAll_98 : decode cX6_readAll 98 = .ok (.aload_n 0, 1) := by decide +kernel
theorem dX6_readAll_99 : decode cX6_readAll 99 = .ok (.getfield 50, 3) := by decide +kernel
theorem dX6_readAll_102 : decode cX6_readAll 102 = .ok (.iload_n 2, 1) := by decide +kernel
theorem dX6_readAll_103 : decode cX6_readAll 103 = .ok (.iaload, 1) := by decide +kernel
theorem dX6_readAll_104 : decode cX6_readAll 104 = .ok (.aload_n 0, 1) := by decide +kernel
theorem dX6_readAll_105 : decode cX6_readAll 105 = .ok (.getfield 53, 3) := by decide +kernel
theorem dX6_readAll_108 : decode cX6_readAll 108 = .ok (.iload_n 2, 1) := by decide +kernel
theorem dX6_readAll_109 : decode cX6_readAll 109 = .ok (.iaload, 1) := by decide +kernel
theorem dX6_readAll_110 : decode cX6_readAll 110 = .ok (.aload_n 0, 1) := by decide +kernel
theorem dX6_readAll_111 : decode cX6_readAll 111 = .ok (.getfield 50, 3) := by decide +kernel
theorem dX6_readAll_114 : decode cX6_readAll 114 = .ok (.iload_n 2, 1) := by decide +kernel
theorem dX6_readAll_115 : decode cX6_readAll 115 = .ok (.iconst 1, 1) := by decide +kernel
theorem dX6_readAll_116 : decode cX6_readAll 116 = .ok (.iadd, 1) := by decide +kernel
theorem dX6_readAll_117 : decode cX6_readAll 117 = .ok (.aload_n 0, 1) := by decide +kernel
theorem dX6_readAll_118 : decode cX6_readAll 118 = .ok (.getfield 224, 3) := by decide +kernel
theorem dX6_readAll_121 : decode cX6_readAll 121 = .ok (.irem, 1) := by decide +kernel
theorem dX6_readAll_122 : decode cX6_readAll 122 = .ok (.iaload, 1) := by decide +kernel
theorem dX6_readAll_123 : decode cX6_readAll 123 = .ok (.aload_n 0, 1) := by decide +kernel
theorem dX6_readAll_124 : decode cX6_readAll 124 = .ok (.getfield 53, 3) := by decide +kernel
theorem dX6_readAll_127 : decode cX6_readAll 127 = .ok (.iload_n 2, 1) := by decide +kernel
theorem dX6_readAll_128 : decode cX6_readAll 128 = .ok (.iconst 1, 1) := by decide +kernel
theorem dX6_readAll_129 : decode cX6_readAll 129 = .ok (.iadd, 1) := by decide +kernel
theorem dX6_readAll_130 : decode cX6_readAll 130 = .ok (.aload_n 0, 1) := by decide +kernel
theorem dX6_readAll_131 : decode cX6_readAll 131 = .ok (.getfield 224, 3) := by decide +kernel
theorem dX6_readAll_134 : decode cX6_readAll 134 = .ok (.irem, 1) := by decide +kernel
theorem dX6_readAll_135 : decode cX6_readAll 135 = .ok (.iaload, 1) := by decide +kernel
theorem dX6_readAll_136 : decode cX6_readAll 136 = .ok (.invokestatic 227, 3) := by decide +kernel
theorem dX6_readAll_139 : decode cX6_readAll 139 = .ok (.ifCond .le 7, 3) := by decide +kernel
theorem dX6_readAll_142 : decode cX6_readAll 142 = .ok (.iconst 1, 1) := by decide +kernel
theorem dX6_readAll_143 : decode cX6_readAll 143 = .ok (.goto 4, 3) := by decide +kernel
theorem dX6_readAll_146 : decode cX6_readAll 146 = .ok (.iconst 0, 1) := by decide +kernel
theorem dX6_readAll_147 : decode cX6_readAll 147 = .ok (.istore_n 1, 1) := by decide +kernel
theorem dX6_readAll_148 : decode cX6_readAll 148 = .ok (.iinc 2 1, 3) := by decide +kernel
theorem dX6_readAll_151 : decode cX6_readAll 151 = .ok (.goto (-65), 3) := by decide +kernel
theorem dX6_readAll_154 : decode cX6_readAll 154 = .ok (.iload_n 1, 1) := by decide +kernel
theorem dX6_readAll_155 : decode cX6_readAll 155 = .ok (.ifCond .ne 8, 3) := by decide +kernel
theorem dX6_readAll_158 : decode cX6_readAll 158 = .ok (.aload_n 0, 1) := by decide +kernel
theorem dX6_readAll_159 : decode cX6_readAll 159 = .ok (.iconst 5, 1) := by decide +kernel
theorem dX6_readAll_160 : decode cX6_readAll 160 = .ok (.invokevirtual 159, 3) := by decide +kernel
theorem dX6_readAll_163 : decode cX6_readAll 163 = .ok (.return_, 1) := by decide +kernel
theorem dX6_cross_0 : decode cX6_cross 0 = .ok (.iload_n 0, 1) := by decide +kernel
theorem dX6_cross_1 : decode cX6_cross 1 = .ok (.iload_n 3, 1) := by decide +kernel
theorem dX6_cross_2 : decode cX6_cross 2 = .ok (.imul, 1) := by decide +kernel
theorem dX6_cross_3 : decode cX6_cross 3 = .ok (.iload_n 1, 1) := by decide +kernel
theorem dX6_cross_4 : decode cX6_cross 4 = .ok (.iload_n 2, 1) := by decide +kernel
theorem dX6_cross_5 : decode cX6_cross 5 = .ok (.imul, 1) := by decide +kernel
theorem dX6_cross_6 : decode cX6_cross 6 = .ok (.isub, 1) := by decide +kernel
theorem dX6_cross_7 : decode cX6_cross 7 = .ok (.ireturn, 1) := by decide +kernel
theorem dX6_half_0 : decode cX6_half 0 = .ok (.iload_n 1, 1) := by decide +kernel
theorem dX6_half_1 : decode cX6_half 1 = .ok (.ifCond .gt 11, 3) := by decide +kernel
theorem dX6_half_4 : decode cX6_half 4 = .ok (.iload_n 1, 1) := by decide +kernel
theorem dX6_half_5 : decode cX6_half 5 = .ok (.ifCond .ne 11, 3) := by decide +kernel
theorem dX6_half_8 : decode cX6_half 8 = .ok (.iload_n 0, 1) := by decide +kernel
theorem dX6_half_9 : decode cX6_half 9 = .ok (.ifCond .le 7, 3) := by decide +kernel
theorem dX6_half_12 : decode cX6_half 12 = .ok (.iconst 0, 1) := by decide +kernel
theorem dX6_half_13 : decode cX6_half 13 = .ok (.goto 4, 3) := by decide +kernel
theorem dX6_half_16 : decode cX6_half 16 = .ok (.iconst 1, 1) := by decide +kernel
theorem dX6_half_17 : decode cX6_half 17 = .ok (.ireturn, 1) := by decide +kernel
theorem dX6_isAhead_0 : decode cX6_isAhead 0 = .ok (.iload_n 0, 1) := by decide +kernel
theorem dX6_isAhead_1 : decode cX6_isAhead 1 = .ok (.iload_n 1, 1) := by decide +kernel
theorem dX6_isAhead_2 : decode cX6_isAhead 2 = .ok (.invokestatic 231, 3) := by decide +kernel
theorem dX6_isAhead_5 : decode cX6_isAhead 5 = .ok (.iload_n 2, 1) := by decide +kernel
theorem dX6_isAhead_6 : decode cX6_isAhead 6 = .ok (.iload_n 3, 1) := by decide +kernel
theorem dX6_isAhead_7 : decode cX6_isAhead 7 = .ok (.invokestatic 231, 3) := by decide +kernel
theorem dX6_isAhead_10 : decode cX6_isAhead 10 = .ok (.if_icmp .eq 24, 3) := by decide +kernel
theorem dX6_isAhead_13 : decode cX6_isAhead 13 = .ok (.iload_n 0, 1) := by decide +kernel
theorem dX6_isAhead_14 : decode cX6_isAhead 14 = .ok (.iload_n 1, 1) := by decide +kernel
theorem dX6_isAhead_15 : decode cX6_isAhead 15 = .ok (.invokestatic 231, 3) := by decide +kernel
theorem dX6_isAhead_18 : decode cX6_isAhead 18 = .ok (.iload_n 2, 1) := by decide +kernel
theorem dX6_isAhead_19 : decode cX6_isAhead 19 = .ok (.iload_n 3, 1) := by decide +kernel
theorem dX6_isAhead_20 : decode cX6_isAhead 20 = .ok (.invokestatic 231, 3) := by decide +kernel
theorem dX6_isAhead_23 : decode cX6_isAhead 23 = .ok (.if_icmp .ge 7, 3) := by decide +kernel
theorem dX6_isAhead_26 : decode cX6_isAhead 26 = .ok (.iconst 1, 1) := by decide +kernel
theorem dX6_isAhead_27 : decode cX6_isAhead 27 = .ok (.goto 22, 3) := by decide +kernel
theorem dX6_isAhead_30 : decode cX6_isAhead 30 = .ok (.iconst 0, 1) := by decide +kernel
theorem dX6_isAhead_31 : decode cX6_isAhead 31 = .ok (.goto 18, 3) := by decide +kernel
theorem dX6_isAhead_34 : decode cX6_isAhead 34 = .ok (.iload_n 0, 1) := by decide +kernel
theorem dX6_isAhead_35 : decode cX6_isAhead 35 = .ok (.iload_n 1, 1) := by decide +kernel
theorem dX6_isAhead_36 : decode cX6_isAhead 36 = .ok (.iload_n 2, 1) := by decide +kernel
theorem dX6_isAhead_37 : decode cX6_isAhead 37 = .ok (.iload_n 3, 1) := by decide +kernel
theorem dX6_isAhead_38 : decode cX6_isAhead 38 = .ok (.invokestatic 227, 3) := by decide +kernel
theorem dX6_isAhead_41 : decode cX6_isAhead 41 = .ok (.ifCond .le 7, 3) := by decide +kernel
theorem dX6_isAhead_44 : decode cX6_isAhead 44 = .ok (.iconst 1, 1) := by decide +kernel
theorem dX6_isAhead_45 : decode cX6_isAhead 45 = .ok (.goto 4, 3) := by decide +kernel
theorem dX6_isAhead_48 : decode cX6_isAhead 48 = .ok (.iconst 0, 1) := by decide +kernel
theorem dX6_isAhead_49 : decode cX6_isAhead 49 = .ok (.ireturn, 1) := by decide +kernel
theorem dX6_lays_0 : decode cX6_lays 0 = .ok (.aload_n 0, 1) := by decide +kernel
theorem dX6_lays_1 : decode cX6_lays 1 = .ok (.getfield 224, 3) := by decide +kernel
theorem dX6_lays_4 : decode cX6_lays 4 = .ok (.bipush 24, 2) := by decide +kernel
theorem dX6_lays_6 : decode cX6_lays 6 = .ok (.if_icmp .eq 31, 3) := by decide +kernel
theorem dX6_lays_9 : decode cX6_lays 9 = .ok (.iload_n 1, 1) := by decide +kernel
theorem dX6_lays_10 : decode cX6_lays 10 = .ok (.i2l, 1) := by decide +kernel
theorem dX6_lays_11 : decode cX6_lays 11 = .ok (.ldc2_w 235, 3) := by decide +kernel
theorem dX6_lays_14 : decode cX6_lays 14 = .ok (.ldc2_w 237, 3) := by decide +kernel
theorem dX6_lays_17 : decode cX6_lays 17 = .ok (.invokestatic 108, 3) := by decide +kernel
theorem dX6_lays_20 : decode cX6_lays 20 = .ok (.ifCond .eq 17, 3) := by decide +kernel
theorem dX6_lays_23 : decode cX6_lays 23 = .ok (.iload_n 2, 1) := by decide +kernel
theorem dX6_lays_24 : decode cX6_lays 24 = .ok (.i2l, 1) := by decide +kernel
theorem dX6_lays_25 : decode cX6_lays 25 = .ok (.ldc2_w 235, 3) := by decide +kernel
theorem dX6_lays_28 : decode cX6_lays 28 = .ok (.ldc2_w 237, 3) := by decide +kernel
theorem dX6_lays_31 : decode cX6_lays 31 = .ok (.invokestatic 108, 3) := by decide +kernel
theorem dX6_lays_34 : decode cX6_lays 34 = .ok (.ifCond .ne 9, 3) := by decide +kernel
theorem dX6_lays_37 : decode cX6_lays 37 = .ok (.aload_n 0, 1) := by decide +kernel
theorem dX6_lays_38 : decode cX6_lays 38 = .ok (.iconst 0, 1) := by decide +kernel
theorem dX6_lays_39 : decode cX6_lays 39 = .ok (.putfield 239, 3) := by decide +kernel
theorem dX6_lays_42 : decode cX6_lays 42 = .ok (.return_, 1) := by decide +kernel
theorem dX6_lays_43 : decode cX6_lays 43 = .ok (.aload_n 0, 1) := by decide +kernel
theorem dX6_lays_44 : decode cX6_lays 44 = .ok (.getfield 224, 3) := by decide +kernel
theorem dX6_lays_47 : decode cX6_lays 47 = .ok (.istore_n 3, 1) := by decide +kernel
theorem dX6_lays_48 : decode cX6_lays 48 = .ok (.iload_n 3, 1) := by decide +kernel
theorem dX6_lays_49 : decode cX6_lays 49 = .ok (.ifCond .le 103, 3) := by decide +kernel
theorem dX6_lays_52 : decode cX6_lays 52 = .ok (.iload_n 1, 1) := by decide +kernel
theorem dX6_lays_53 : decode cX6_lays 53 = .ok (.iload_n 2, 1) := by decide +kernel
theorem dX6_lays_54 : decode cX6_lays 54 = .ok (.aload_n 0, 1) := by decide +kernel
theorem dX6_lays_55 : decode cX6_lays 55 = .ok (.getfield 50, 3) := by decide +kernel
theorem dX6_lays_58 : decode cX6_lays 58 = .ok (.iload_n 3, 1) := by decide +kernel
theorem dX6_lays_59 : decode cX6_lays 59 = .ok (.iconst 1, 1) := by decide +kernel
theorem dX6_lays_60 : decode cX6_lays 60 = .ok (.isub, 1) := by decide +kernel
theorem dX6_lays_61 : decode cX6_lays 61 = .ok (.iaload, 1) := by decide +kernel
theorem dX6_lays_62 : decode cX6_lays 62 = .ok (.aload_n 0, 1) := by decide +kernel
theorem dX6_lays_63 : decode cX6_lays 63 = .ok (.getfield 53, 3) := by decide +kernel
theorem dX6_lays_66 : decode cX6_lays 66 = .ok (.iload_n 3, 1) := by decide +kernel
theorem dX6_lays_67 : decode cX6_lays 67 = .ok (.iconst 1, 1) := by decide +kernel
theorem dX6_lays_68 : decode cX6_lays 68 = .ok (.isub, 1) := by decide +kernel
theorem dX6_lays_69 : decode cX6_lays 69 = .ok (.iaload, 1) := by decide +kernel
theorem dX6_lays_70 : decode cX6_lays 70 = .ok (.invokestatic 243, 3) := by decide +kernel
theorem dX6_lays_73 : decode cX6_lays 73 = .ok (.ifCond .eq 79, 3) := by decide +kernel
theorem dX6_lays_76 : decode cX6_lays 76 = .ok (.aload_n 0, 1) := by decide +kernel
theorem dX6_lays_77 : decode cX6_lays 77 = .ok (.getfield 50, 3) := by decide +kernel
theorem dX6_lays_80 : decode cX6_lays 80 = .ok (.iload_n 3, 1) := by decide +kernel
theorem dX6_lays_81 : decode cX6_lays 81 = .ok (.aload_n 0, 1) := by decide +kernel
theorem dX6_lays_82 : decode cX6_lays 82 = .ok (.getfield 50, 3) := by decide +kernel
theorem dX6_lays_85 : decode cX6_lays 85 = .ok (.iload_n 3, 1) := by decide +kernel
theorem dX6_lays_86 : decode cX6_lays 86 = .ok (.iconst 1, 1) := by decide +kernel
theorem dX6_lays_87 : decode cX6_lays 87 = .ok (.isub, 1) := by decide +kernel
theorem dX6_lays_88 : decode cX6_lays 88 = .ok (.iaload, 1) := by decide +kernel
theorem dX6_lays_89 : decode cX6_lays 89 = .ok (.iastore, 1) := by decide +kernel
theorem dX6_lays_90 : decode cX6_lays 90 = .ok (.aload_n 0, 1) := by decide +kernel
theorem dX6_lays_91 : decode cX6_lays 91 = .ok (.getfield 53, 3) := by decide +kernel
theorem dX6_lays_94 : decode cX6_lays 94 = .ok (.iload_n 3, 1) := by decide +kernel
theorem dX6_lays_95 : decode cX6_lays 95 = .ok (.aload_n 0, 1) := by decide +kernel
theorem dX6_lays_96 : decode cX6_lays 96 = .ok (.getfield 53, 3) := by decide +kernel
theorem dX6_lays_99 : decode cX6_lays 99 = .ok (.iload_n 3, 1) := by decide +kernel
theorem dX6_lays_100 : decode cX6_lays 100 = .ok (.iconst 1, 1) := by decide +kernel
theorem dX6_lays_101 : decode cX6_lays 101 = .ok (.isub, 1) := by decide +kernel
theorem dX6_lays_102 : decode cX6_lays 102 = .ok (.iaload, 1) := by decide +kernel
theorem dX6_lays_103 : decode cX6_lays 103 = .ok (.iastore, 1) := by decide +kernel
theorem dX6_lays_104 : decode cX6_lays 104 = .ok (.iconst 0, 1) := by decide +kernel
theorem dX6_lays_105 : decode cX6_lays 105 = .ok (.istore 4, 2) := by decide +kernel
theorem dX6_lays_107 : decode cX6_lays 107 = .ok (.iload 4, 2) := by decide +kernel
theorem dX6_lays_109 : decode cX6_lays 109 = .ok (.bipush 6, 2) := by decide +kernel
theorem dX6_lays_111 : decode cX6_lays 111 = .ok (.if_icmp .ge 35, 3) := by decide +kernel
theorem dX6_lays_114 : decode cX6_lays 114 = .ok (.aload_n 0, 1) := by decide +kernel
theorem dX6_lays_115 : decode cX6_lays 115 = .ok (.getfield 56, 3) := by decide +kernel
theorem dX6_lays_118 : decode cX6_lays 118 = .ok (.bipush 25, 2) := by decide +kernel
theorem dX6_lays_120 : decode cX6_lays 120 = .ok (.iload 4, 2) := by decide +kernel
theorem dX6_lays_122 : decode cX6_lays 122 = .ok (.imul, 1) := by decide +kernel
theorem dX6_lays_123 : decode cX6_lays 123 = .ok (.iload_n 3, 1) := by decide +kernel
theorem dX6_lays_124 : decode cX6_lays 124 = .ok (.iadd, 1) := by decide +kernel
theorem dX6_lays_125 : decode cX6_lays 125 = .ok (.aload_n 0, 1) := by decide +kernel
theorem dX6_lays_126 : decode cX6_lays 126 = .ok (.getfield 56, 3) := by decide +kernel
theorem dX6_lays_129 : decode cX6_lays 129 = .ok (.bipush 25, 2) := by decide +kernel
theorem dX6_lays_131 : decode cX6_lays 131 = .ok (.iload 4, 2) := by decide +kernel
theorem dX6_lays_133 : decode cX6_lays 133 = .ok (.imul, 1) := by decide +kernel
theorem dX6_lays_134 : decode cX6_lays 134 = .ok (.iload_n 3, 1) := by decide +kernel
theorem dX6_lays_135 : decode cX6_lays 135 = .ok (.iadd, 1) := by decide +kernel
theorem dX6_lays_136 : decode cX6_lays 136 = .ok (.iconst 1, 1) := by decide +kernel
theorem dX6_lays_137 : decode cX6_lays 137 = .ok (.isub, 1) := by decide +kernel
theorem dX6_lays_138 : decode cX6_lays 138 = .ok (.iaload, 1) := by decide +kernel
theorem dX6_lays_139 : decode cX6_lays 139 = .ok (.iastore, 1) := by decide +kernel
theorem dX6_lays_140 : decode cX6_lays 140 = .ok (.iinc 4 1, 3) := by decide +kernel
theorem dX6_lays_143 : decode cX6_lays 143 = .ok (.goto (-36), 3) := by decide +kernel
theorem dX6_lays_146 : decode cX6_lays 146 = .ok (.iinc 3 (-1), 3) := by decide +kernel
theorem dX6_lays_149 : decode cX6_lays 149 = .ok (.goto (-101), 3) := by decide +kernel
theorem dX6_lays_152 : decode cX6_lays 152 = .ok (.aload_n 0, 1) := by decide +kernel
theorem dX6_lays_153 : decode cX6_lays 153 = .ok (.getfield 50, 3) := by decide +kernel
theorem dX6_lays_156 : decode cX6_lays 156 = .ok (.iload_n 3, 1) := by decide +kernel
theorem dX6_lays_157 : decode cX6_lays 157 = .ok (.iload_n 1, 1) := by decide +kernel
theorem dX6_lays_158 : decode cX6_lays 158 = .ok (.iastore, 1) := by decide +kernel
theorem dX6_lays_159 : decode cX6_lays 159 = .ok (.aload_n 0, 1) := by decide +kernel
theorem dX6_lays_160 : decode cX6_lays 160 = .ok (.getfield 53, 3) := by decide +kernel
theorem dX6_lays_163 : decode cX6_lays 163 = .ok (.iload_n 3, 1) := by decide +kernel
theorem dX6_lays_164 : decode cX6_lays 164 = .ok (.iload_n 2, 1) := by decide +kernel
theorem dX6_lays_165 : decode cX6_lays 165 = .ok (.iastore, 1) := by decide +kernel
theorem dX6_lays_166 : decode cX6_lays 166 = .ok (.iconst 0, 1) := by decide +kernel
theorem dX6_lays_167 : decode cX6_lays 167 = .ok (.istore 4, 2) := by decide +kernel
theorem dX6_lays_169 : decode cX6_lays 169 = .ok (.iload 4, 2) := by decide +kernel
theorem dX6_lays_171 : decode cX6_lays 171 = .ok (.bipush 6, 2) := by decide +kernel
theorem dX6_lays_173 : decode cX6_lays 173 = .ok (.if_icmp .ge 53, 3) := by decide +kernel
theorem dX6_lays_176 : decode cX6_lays 176 = .ok (.aload_n 0, 1) := by decide +kernel
theorem dX6_lays_177 : decode cX6_lays 177 = .ok (.getfield 56, 3) := by decide +kernel
theorem dX6_lays_180 : decode cX6_lays 180 = .ok (.bipush 25, 2) := by decide +kernel
theorem dX6_lays_182 : decode cX6_lays 182 = .ok (.iload 4, 2) := by decide +kernel
theorem dX6_lays_184 : decode cX6_lays 184 = .ok (.imul, 1) := by decide +kernel
theorem dX6_lays_185 : decode cX6_lays 185 = .ok (.iload_n 3, 1) := by decide +kernel
theorem dX6_lays_186 : decode cX6_lays 186 = .ok (.iadd, 1) := by decide +kernel
theorem dX6_lays_187 : decode cX6_lays 187 = .ok (.aload_n 0, 1) := by decide +kernel
theorem dX6_lays_188 : decode cX6_lays 188 = .ok (.getfield 59, 3) := by decide +kernel
theorem dX6_lays_191 : decode cX6_lays 191 = .ok (.iload 4, 2) := by decide +kernel
theorem dX6_lays_193 : decode cX6_lays 193 = .ok (.iaload, 1) := by decide +kernel
theorem dX6_lays_194 : decode cX6_lays 194 = .ok (.iastore, 1) := by decide +kernel
theorem dX6_lays_195 : decode cX6_lays 195 = .ok (.aload_n 0, 1) := by decide +kernel
theorem dX6_lays_196 : decode cX6_lays 196 = .ok (.getfield 59, 3) := by decide +kernel
theorem dX6_lays_199 : decode cX6_lays 199 = .ok (.iload 4, 2) := by decide +kernel
theorem dX6_lays_201 : decode cX6_lays 201 = .ok (.iaload, 1) := by decide +kernel
theorem dX6_lays_202 : decode cX6_lays 202 = .ok (.i2l, 1) := by decide +kernel
theorem dX6_lays_203 : decode cX6_lays 203 = .ok (.ldc2_w 247, 3) := by decide +kernel
theorem dX6_lays_206 : decode cX6_lays 206 = .ok (.ldc2_w 249, 3) := by decide +kernel
theorem dX6_lays_209 : decode cX6_lays 209 = .ok (.invokestatic 108, 3) := by decide +kernel
theorem dX6_lays_212 : decode cX6_lays 212 = .ok (.ifCond .ne 8, 3) := by decide +kernel
theorem dX6_lays_215 : decode cX6_lays 215 = .ok (.aload_n 0, 1) := by decide +kernel
theorem dX6_lays_216 : decode cX6_lays 216 = .ok (.iconst 0, 1) := by decide +kernel
theorem dX6_lays_217 : decode cX6_lays 217 = .ok (.putfield 239, 3) := by decide +kernel
theorem dX6_lays_220 : decode cX6_lays 220 = .ok (.iinc 4 1, 3) := by decide +kernel
theorem dX6_lays_223 : decode cX6_lays 223 = .ok (.goto (-54), 3) := by decide +kernel
theorem dX6_lays_226 : decode cX6_lays 226 = .ok (.aload_n 0, 1) := by decide +kernel
theorem dX6_lays_227 : decode cX6_lays 227 = .ok (.dup, 1) := by decide +kernel
theorem dX6_lays_228 : decode cX6_lays 228 = .ok (.getfield 224, 3) := by decide +kernel
theorem dX6_lays_231 : decode cX6_lays 231 = .ok (.iconst 1, 1) := by decide +kernel
theorem dX6_lays_232 : decode cX6_lays 232 = .ok (.iadd, 1) := by decide +kernel
theorem dX6_lays_233 : decode cX6_lays 233 = .ok (.putfield 224, 3) := by decide +kernel
theorem dX6_lays_236 : decode cX6_lays 236 = .ok (.return_, 1) := by decide +kernel
theorem dX6_laysRead_0 : decode cX6_laysRead 0 = .ok (.aload_n 0, 1) := by decide +kernel
theorem dX6_laysRead_1 : decode cX6_laysRead 1 = .ok (.iconst 0, 1) := by decide +kernel
theorem dX6_laysRead_2 : decode cX6_laysRead 2 = .ok (.putfield 224, 3) := by decide +kernel
theorem dX6_laysRead_5 : decode cX6_laysRead 5 = .ok (.iconst 0, 1) := by decide +kernel
theorem dX6_laysRead_6 : decode cX6_laysRead 6 = .ok (.istore_n 1, 1) := by decide +kernel
theorem dX6_laysRead_7 : decode cX6_laysRead 7 = .ok (.iload_n 1, 1) := by decide +kernel
theorem dX6_laysRead_8 : decode cX6_laysRead 8 = .ok (.aload_n 0, 1) := by decide +kernel
theorem dX6_laysRead_9 : decode cX6_laysRead 9 = .ok (.getfield 180, 3) := by decide +kernel
theorem dX6_laysRead_12 : decode cX6_laysRead 12 = .ok (.if_icmp .ge 68, 3) := by decide +kernel
theorem dX6_laysRead_15 : decode cX6_laysRead 15 = .ok (.iconst 0, 1) := by decide +kernel
theorem dX6_laysRead_16 : decode cX6_laysRead 16 = .ok (.istore_n 2, 1) := by decide +kernel
theorem dX6_laysRead_17 : decode cX6_laysRead 17 = .ok (.iload_n 2, 1) := by decide +kernel
theorem dX6_laysRead_18 : decode cX6_laysRead 18 = .ok (.bipush 6, 2) := by decide +kernel
theorem dX6_laysRead_20 : decode cX6_laysRead 20 = .ok (.if_icmp .ge 38, 3) := by decide +kernel
theorem dX6_laysRead_23 : decode cX6_laysRead 23 = .ok (.aload_n 0, 1) := by decide +kernel
theorem dX6_laysRead_24 : decode cX6_laysRead 24 = .ok (.getfield 59, 3) := by decide +kernel
theorem dX6_laysRead_27 : decode cX6_laysRead 27 = .ok (.iload_n 2, 1) := by decide +kernel
theorem dX6_laysRead_28 : decode cX6_laysRead 28 = .ok (.iload_n 2, 1) := by decide +kernel
theorem dX6_laysRead_29 : decode cX6_laysRead 29 = .ok (.aload_n 0, 1) := by decide +kernel
theorem dX6_laysRead_30 : decode cX6_laysRead 30 = .ok (.getfield 187, 3) := by decide +kernel
theorem dX6_laysRead_33 : decode cX6_laysRead 33 = .ok (.if_icmp .ge 17, 3) := by decide +kernel
theorem dX6_laysRead_36 : decode cX6_laysRead 36 = .ok (.aload_n 0, 1) := by decide +kernel
theorem dX6_laysRead_37 : decode cX6_laysRead 37 = .ok (.getfield 35, 3) := by decide +kernel
theorem dX6_laysRead_40 : decode cX6_laysRead 40 = .ok (.bipush 12, 2) := by decide +kernel
theorem dX6_laysRead_42 : decode cX6_laysRead 42 = .ok (.iload_n 2, 1) := by decide +kernel
theorem dX6_laysRead_43 : decode cX6_laysRead 43 = .ok (.imul, 1) := by decide +kernel
theorem dX6_laysRead_44 : decode cX6_laysRead 44 = .ok (.iload_n 1, 1) := by decide +kernel
theorem dX6_laysRead_45 : decode cX6_laysRead 45 = .ok (.iadd, 1) := by decide +kernel
theorem dX6_laysRead_46 : decode cX6_laysRead 46 = .ok (.iaload, 1) := by decide +kernel
theorem dX6_laysRead_47 : decode cX6_laysRead 47 = .ok (.goto 4, 3) := by decide +kernel
theorem dX6_laysRead_50 : decode cX6_laysRead 50 = .ok (.iconst 0, 1) := by decide +kernel
theorem dX6_laysRead_51 : decode cX6_laysRead 51 = .ok (.iastore, 1) := by decide +kernel
theorem dX6_laysRead_52 : decode cX6_laysRead 52 = .ok (.iinc 2 1, 3) := by decide +kernel
theorem dX6_laysRead_55 : decode cX6_laysRead 55 = .ok (.goto (-38), 3) := by decide +kernel
theorem dX6_laysRead_58 : decode cX6_laysRead 58 = .ok (.aload_n 0, 1) := by decide +kernel
theorem dX6_laysRead_59 : decode cX6_laysRead 59 = .ok (.aload_n 0, 1) := by decide +kernel
theorem dX6_laysRead_60 : decode cX6_laysRead 60 = .ok (.getfield 29, 3) := by decide +kernel
theorem dX6_laysRead_63 : decode cX6_laysRead 63 = .ok (.iload_n 1, 1) := by decide +kernel
theorem dX6_laysRead_64 : decode cX6_laysRead 64 = .ok (.iaload, 1) := by decide +kernel
theorem dX6_laysRead_65 : decode cX6_laysRead 65 = .ok (.aload_n 0, 1) := by decide +kernel
theorem dX6_laysRead_66 : decode cX6_laysRead 66 = .ok (.getfield 32, 3) := by decide +kernel
theorem dX6_laysRead_69 : decode cX6_laysRead 69 = .ok (.iload_n 1, 1) := by decide +kernel
theorem dX6_laysRead_70 : decode cX6_laysRead 70 = .ok (.iaload, 1) := by decide +kernel
theorem dX6_laysRead_71 : decode cX6_laysRead 71 = .ok (.invokevirtual 251, 3) := by decide +kernel
theorem dX6_laysRead_74 : decode cX6_laysRead 74 = .ok (.iinc 1 1, 3) := by decide +kernel
theorem dX6_laysRead_77 : decode cX6_laysRead 77 = .ok (.goto (-70), 3) := by decide +kernel
theorem dX6_laysRead_80 : decode cX6_laysRead 80 = .ok (.return_, 1) := by decide +kernel
theorem dX6_laysOwn_0 : decode cX6_laysOwn 0 = .ok (.iconst 0, 1) := by decide +kernel
theorem dX6_laysOwn_1 : decode cX6_laysOwn 1 = .ok (.istore_n 2, 1) := by decide +kernel
theorem dX6_laysOwn_2 : decode cX6_laysOwn 2 = .ok (.iload_n 2, 1) := by decide +kernel
theorem dX6_laysOwn_3 : decode cX6_laysOwn 3 = .ok (.bipush 6, 2) := by decide +kernel
theorem dX6_laysOwn_5 : decode cX6_laysOwn 5 = .ok (.if_icmp .ge 26, 3) := by decide +kernel
theorem dX6_laysOwn_8 : decode cX6_laysOwn 8 = .ok (.aload_n 0, 1) := by decide +kernel
theorem dX6_laysOwn_9 : decode cX6_laysOwn 9 = .ok (.getfield 59, 3) := by decide +kernel
theorem dX6_laysOwn_12 : decode cX6_laysOwn 12 = .ok (.iload_n 2, 1) := by decide +kernel
theorem dX6_laysOwn_13 : decode cX6_laysOwn 13 = .ok (.aload_n 0, 1) := by decide +kernel
theorem dX6_laysOwn_14 : decode cX6_laysOwn 14 = .ok (.getfield 47, 3) := by decide +kernel
theorem dX6_laysOwn_17 : decode cX6_laysOwn 17 = .ok (.bipush 25, 2) := by decide +kernel
theorem dX6_laysOwn_19 : decode cX6_laysOwn 19 = .ok (.iload_n 2, 1) := by decide +kernel
theorem dX6_laysOwn_20 : decode cX6_laysOwn 20 = .ok (.imul, 1) := by decide +kernel
theorem dX6_laysOwn_21 : decode cX6_laysOwn 21 = .ok (.iload_n 1, 1) := by decide +kernel
theorem dX6_laysOwn_22 : decode cX6_laysOwn 22 = .ok (.iadd, 1) := by decide +kernel
theorem dX6_laysOwn_23 : decode cX6_laysOwn 23 = .ok (.iaload, 1) := by decide +kernel
theorem dX6_laysOwn_24 : decode cX6_laysOwn 24 = .ok (.iastore, 1) := by decide +kernel
theorem dX6_laysOwn_25 : decode cX6_laysOwn 25 = .ok (.iinc 2 1, 3) := by decide +kernel
theorem dX6_laysOwn_28 : decode cX6_laysOwn 28 = .ok (.goto (-26), 3) := by decide +kernel
theorem dX6_laysOwn_31 : decode cX6_laysOwn 31 = .ok (.aload_n 0, 1) := by decide +kernel
theorem dX6_laysOwn_32 : decode cX6_laysOwn 32 = .ok (.aload_n 0, 1) := by decide +kernel
theorem dX6_laysOwn_33 : decode cX6_laysOwn 33 = .ok (.getfield 41, 3) := by decide +kernel
theorem dX6_laysOwn_36 : decode cX6_laysOwn 36 = .ok (.iload_n 1, 1) := by decide +kernel
theorem dX6_laysOwn_37 : decode cX6_laysOwn 37 = .ok (.iaload, 1) := by decide +kernel
theorem dX6_laysOwn_38 : decode cX6_laysOwn 38 = .ok (.aload_n 0, 1) := by decide +kernel
theorem dX6_laysOwn_39 : decode cX6_laysOwn 39 = .ok (.getfield 44, 3) := by decide +kernel
theorem dX6_laysOwn_42 : decode cX6_laysOwn 42 = .ok (.iload_n 1, 1) := by decide +kernel
theorem dX6_laysOwn_43 : decode cX6_laysOwn 43 = .ok (.iaload, 1) := by decide +kernel
theorem dX6_laysOwn_44 : decode cX6_laysOwn 44 = .ok (.invokevirtual 251, 3) := by decide +kernel
theorem dX6_laysOwn_47 : decode cX6_laysOwn 47 = .ok (.return_, 1) := by decide +kernel
theorem dX6_begins_0 : decode cX6_begins 0 = .ok (.aload_n 0, 1) := by decide +kernel
theorem dX6_begins_1 : decode cX6_begins 1 = .ok (.iconst 0, 1) := by decide +kernel
theorem dX6_begins_2 : decode cX6_begins 2 = .ok (.putfield 224, 3) := by decide +kernel
theorem dX6_begins_5 : decode cX6_begins 5 = .ok (.aload_n 0, 1) := by decide +kernel
theorem dX6_begins_6 : decode cX6_begins 6 = .ok (.iconst 1, 1) := by decide +kernel
theorem dX6_begins_7 : decode cX6_begins 7 = .ok (.putfield 239, 3) := by decide +kernel
theorem dX6_begins_10 : decode cX6_begins 10 = .ok (.iconst 0, 1) := by decide +kernel
theorem dX6_begins_11 : decode cX6_begins 11 = .ok (.istore_n 2, 1) := by decide +kernel
theorem dX6_begins_12 : decode cX6_begins 12 = .ok (.iload_n 2, 1) := by decide +kernel
theorem dX6_begins_13 : decode cX6_begins 13 = .ok (.aload_n 0, 1) := by decide +kernel
theorem dX6_begins_14 : decode cX6_begins 14 = .ok (.getfield 255, 3) := by decide +kernel
theorem dX6_begins_17 : decode cX6_begins 17 = .ok (.if_icmp .ge 19, 3) := by decide +kernel
theorem dX6_begins_20 : decode cX6_begins 20 = .ok (.iload_n 2, 1) := by decide +kernel
theorem dX6_begins_21 : decode cX6_begins 21 = .ok (.iload_n 1, 1) := by decide +kernel
theorem dX6_begins_22 : decode cX6_begins 22 = .ok (.if_icmp .eq 8, 3) := by decide +kernel
theorem dX6_begins_25 : decode cX6_begins 25 = .ok (.aload_n 0, 1) := by decide +kernel
theorem dX6_begins_26 : decode cX6_begins 26 = .ok (.iload_n 2, 1) := by decide +kernel
theorem dX6_begins_27 : decode cX6_begins 27 = .ok (.invokevirtual 258, 3) := by decide +kernel
theorem dX6_begins_30 : decode cX6_begins 30 = .ok (.iinc 2 1, 3) := by decide +kernel
theorem dX6_begins_33 : decode cX6_begins 33 = .ok (.goto (-21), 3) := by decide +kernel
theorem dX6_begins_36 : decode cX6_begins 36 = .ok (.return_, 1) := by decide +kernel
theorem dX6_holds_0 : decode cX6_holds 0 = .ok (.aload_n 0, 1) := by decide +kernel
theorem dX6_holds_1 : decode cX6_holds 1 = .ok (.aload_n 0, 1) := by decide +kernel
theorem dX6_holds_2 : decode cX6_holds 2 = .ok (.getfield 224, 3) := by decide +kernel
theorem dX6_holds_5 : decode cX6_holds 5 = .ok (.putfield 255, 3) := by decide +kernel
theorem dX6_holds_8 : decode cX6_holds 8 = .ok (.iconst 0, 1) := by decide +kernel
theorem dX6_holds_9 : decode cX6_holds 9 = .ok (.istore_n 1, 1) := by decide +kernel
theorem dX6_holds_10 : decode cX6_holds 10 = .ok (.iload_n 1, 1) := by decide +kernel
theorem dX6_holds_11 : decode cX6_holds 11 = .ok (.bipush 25, 2) := by decide +kernel
theorem dX6_holds_13 : decode cX6_holds 13 = .ok (.if_icmp .ge 33, 3) := by decide +kernel
theorem dX6_holds_16 : decode cX6_holds 16 = .ok (.aload_n 0, 1) := by decide +kernel
theorem dX6_holds_17 : decode cX6_holds 17 = .ok (.getfield 41, 3) := by decide +kernel
theorem dX6_holds_20 : decode cX6_holds 20 = .ok (.iload_n 1, 1) := by decide +kernel
theorem dX6_holds_21 : decode cX6_holds 21 = .ok (.aload_n 0, 1) := by decide +kernel
theorem dX6_holds_22 : decode cX6_holds 22 = .ok (.getfield 50, 3) := by decide +kernel
theorem dX6_holds_25 : decode cX6_holds 25 = .ok (.iload_n 1, 1) := by decide +kernel
theorem dX6_holds_26 : decode cX6_holds 26 = .ok (.iaload, 1) := by decide +kernel
theorem dX6_holds_27 : decode cX6_holds 27 = .ok (.iastore, 1) := by decide +kernel
theorem dX6_holds_28 : decode cX6_holds 28 = .ok (.aload_n 0, 1) := by decide +kernel
theorem dX6_holds_29 : decode cX6_holds 29 = .ok (.getfield 44, 3) := by decide +kernel
theorem dX6_holds_32 : decode cX6_holds 32 = .ok (.iload_n 1, 1) := by decide +kernel
theorem dX6_holds_33 : decode cX6_holds 33 = .ok (.aload_n 0, 1) := by decide +kernel
theorem dX6_holds_34 : decode cX6_holds 34 = .ok (.getfield 53, 3) := by decide +kernel
theorem dX6_holds_37 : decode cX6_holds 37 = .ok (.iload_n 1, 1) := by decide +kernel
theorem dX6_holds_38 : decode cX6_holds 38 = .ok (.iaload, 1) := by decide +kernel
theorem dX6_holds_39 : decode cX6_holds 39 = .ok (.iastore, 1) := by decide +kernel
theorem dX6_holds_40 : decode cX6_holds 40 = .ok (.iinc 1 1, 3) := by decide +kernel
theorem dX6_holds_43 : decode cX6_holds 43 = .ok (.goto (-33), 3) := by decide +kernel
theorem dX6_holds_46 : decode cX6_holds 46 = .ok (.iconst 0, 1) := by decide +kernel
theorem dX6_holds_47 : decode cX6_holds 47 = .ok (.istore_n 1, 1) := by decide +kernel
theorem dX6_holds_48 : decode cX6_holds 48 = .ok (.iload_n 1, 1) := by decide +kernel
theorem dX6_holds_49 : decode cX6_holds 49 = .ok (.sipush 150, 3) := by decide +kernel
theorem dX6_holds_52 : decode cX6_holds 52 = .ok (.if_icmp .ge 21, 3) := by decide +kernel
theorem dX6_holds_55 : decode cX6_holds 55 = .ok (.aload_n 0, 1) := by decide +kernel
theorem dX6_holds_56 : decode cX6_holds 56 = .ok (.getfield 47, 3) := by decide +kernel
theorem dX6_holds_59 : decode cX6_holds 59 = .ok (.iload_n 1, 1) := by decide +kernel
theorem dX6_holds_60 : decode cX6_holds 60 = .ok (.aload_n 0, 1) := by decide +kernel
theorem dX6_holds_61 : decode cX6_holds 61 = .ok (.getfield 56, 3) := by decide +kernel
theorem dX6_holds_64 : decode cX6_holds 64 = .ok (.iload_n 1, 1) := by decide +kernel
theorem dX6_holds_65 : decode cX6_holds 65 = .ok (.iaload, 1) := by decide +kernel
theorem dX6_holds_66 : decode cX6_holds 66 = .ok (.iastore, 1) := by decide +kernel
theorem dX6_holds_67 : decode cX6_holds 67 = .ok (.iinc 1 1, 3) := by decide +kernel
theorem dX6_holds_70 : decode cX6_holds 70 = .ok (.goto (-22), 3) := by decide +kernel
theorem dX6_holds_73 : decode cX6_holds 73 = .ok (.return_, 1) := by decide +kernel
theorem dX6_remembers_0 : decode cX6_remembers 0 = .ok (.aload_n 0, 1) := by decide +kernel
theorem dX6_remembers_1 : decode cX6_remembers 1 = .ok (.getfield 261, 3) := by decide +kernel
theorem dX6_remembers_4 : decode cX6_remembers 4 = .ok (.bipush 8, 2) := by decide +kernel
theorem dX6_remembers_6 : decode cX6_remembers 6 = .ok (.if_icmp .ne 146, 3) := by decide +kernel
theorem dX6_remembers_9 : decode cX6_remembers 9 = .ok (.aload_n 0, 1) := by decide +kernel
theorem dX6_remembers_10 : decode cX6_remembers 10 = .ok (.dup, 1) := by decide +kernel
theorem dX6_remembers_11 : decode cX6_remembers 11 = .ok (.getfield 261, 3) := by decide +kernel
theorem dX6_remembers_14 : decode cX6_remembers 14 = .ok (.iconst 1, 1) := by decide +kernel
theorem dX6_remembers_15 : decode cX6_remembers 15 = .ok (.isub, 1) := by decide +kernel
theorem dX6_remembers_16 : decode cX6_remembers 16 = .ok (.putfield 261, 3) := by decide +kernel
theorem dX6_remembers_19 : decode cX6_remembers 19 = .ok (.iconst 0, 1) := by decide +kernel
theorem dX6_remembers_20 : decode cX6_remembers 20 = .ok (.istore_n 1, 1) := by decide +kernel
theorem dX6_remembers_21 : decode cX6_remembers 21 = .ok (.iload_n 1, 1) := by decide +kernel
theorem dX6_remembers_22 : decode cX6_remembers 22 = .ok (.aload_n 0, 1) := by decide +kernel
theorem dX6_remembers_23 : decode cX6_remembers 23 = .ok (.getfield 261, 3) := by decide +kernel
theorem dX6_remembers_26 : decode cX6_remembers 26 = .ok (.if_icmp .ge 126, 3) := by decide +kernel
theorem dX6_remembers_29 : decode cX6_remembers 29 = .ok (.aload_n 0, 1) := by decide +kernel
theorem dX6_remembers_30 : decode cX6_remembers 30 = .ok (.getfield 62, 3) := by decide +kernel
theorem dX6_remembers_33 : decode cX6_remembers 33 = .ok (.iload_n 1, 1) := by decide +kernel
theorem dX6_remembers_34 : decode cX6_remembers 34 = .ok (.aload_n 0, 1) := by decide +kernel
theorem dX6_remembers_35 : decode cX6_remembers 35 = .ok (.getfield 62, 3) := by decide +kernel
theorem dX6_remembers_38 : decode cX6_remembers 38 = .ok (.iload_n 1, 1) := by decide +kernel
theorem dX6_remembers_39 : decode cX6_remembers 39 = .ok (.iconst 1, 1) := by decide +kernel
theorem dX6_remembers_40 : decode cX6_remembers 40 = .ok (.iadd, 1) := by decide +kernel
theorem dX6_remembers_41 : decode cX6_remembers 41 = .ok (.iaload, 1) := by decide +kernel
theorem dX6_remembers_42 : decode cX6_remembers 42 = .ok (.iastore, 1) := by decide +kernel
theorem dX6_remembers_43 : decode cX6_remembers 43 = .ok (.iconst 0, 1) := by decide +kernel
theorem dX6_remembers_44 : decode cX6_remembers 44 = .ok (.istore_n 2, 1) := by decide +kernel
theorem dX6_remembers_45 : decode cX6_remembers 45 = .ok (.iload_n 2, 1) := by decide +kernel
theorem dX6_remembers_46 : decode cX6_remembers 46 = .ok (.bipush 25, 2) := by decide +kernel
theorem dX6_remembers_48 : decode cX6_remembers 48 = .ok (.if_icmp .ge 57, 3) := by decide +kernel
theorem dX6_remembers_51 : decode cX6_remembers 51 = .ok (.aload_n 0, 1) := by decide +kernel
theorem dX6_remembers_52 : decode cX6_remembers 52 = .ok (.getfield 65, 3) := by decide +kernel
theorem dX6_remembers_55 : decode cX6_remembers 55 = .ok (.bipush 25, 2) := by decide +kernel
theorem dX6_remembers_57 : decode cX6_remembers 57 = .ok (.iload_n 1, 1) := by decide +kernel
theorem dX6_remembers_58 : decode cX6_remembers 58 = .ok (.imul, 1) := by decide +kernel
theorem dX6_remembers_59 : decode cX6_remembers 59 = .ok (.iload_n 2, 1) := by decide +kernel
theorem dX6_remembers_60 : decode cX6_remembers 60 = .ok (.iadd, 1) := by decide +kernel
theorem dX6_remembers_61 : decode cX6_remembers 61 = .ok (.aload_n 0, 1) := by decide +kernel
theorem dX6_remembers_62 : decode cX6_remembers 62 = .ok (.getfield 65, 3) := by decide +kernel
theorem dX6_remembers_65 : decode cX6_remembers 65 = .ok (.bipush 25, 2) := by decide +kernel
theorem dX6_remembers_67 : decode cX6_remembers 67 = .ok (.iload_n 1, 1) := by decide +kernel
theorem dX6_remembers_68 : decode cX6_remembers 68 = .ok (.iconst 1, 1) := by decide +kernel
theorem dX6_remembers_69 : decode cX6_remembers 69 = .ok (.iadd, 1) := by decide +kernel
theorem dX6_remembers_70 : decode cX6_remembers 70 = .ok (.imul, 1) := by decide +kernel
theorem dX6_remembers_71 : decode cX6_remembers 71 = .ok (.iload_n 2, 1) := by decide +kernel
theorem dX6_remembers_72 : decode cX6_remembers 72 = .ok (.iadd, 1) := by decide +kernel
theorem dX6_remembers_73 : decode cX6_remembers 73 = .ok (.iaload, 1) := by decide +kernel
theorem dX6_remembers_74 : decode cX6_remembers 74 = .ok (.iastore, 1) := by decide +kernel
theorem dX6_remembers_75 : decode cX6_remembers 75 = .ok (.aload_n 0, 1) := by decide +kernel
theorem dX6_remembers_76 : decode cX6_remembers 76 = .ok (.getfield 68, 3) := by decide +kernel
theorem dX6_remembers_79 : decode cX6_remembers 79 = .ok (.bipush 25, 2) := by decide +kernel
theorem dX6_remembers_81 : decode cX6_remembers 81 = .ok (.iload_n 1, 1) := by decide +kernel
theorem dX6_remembers_82 : decode cX6_remembers 82 = .ok (.imul, 1) := by decide +kernel
theorem dX6_remembers_83 : decode cX6_remembers 83 = .ok (.iload_n 2, 1) := by decide +kernel
theorem dX6_remembers_84 : decode cX6_remembers 84 = .ok (.iadd, 1) := by decide +kernel
theorem dX6_remembers_85 : decode cX6_remembers 85 = .ok (.aload_n 0, 1) := by decide +kernel
theorem dX6_remembers_86 : decode cX6_remembers 86 = .ok (.getfield 68, 3) := by decide +kernel
theorem dX6_remembers_89 : decode cX6_remembers 89 = .ok (.bipush 25, 2) := by decide +kernel
theorem dX6_remembers_91 : decode cX6_remembers 91 = .ok (.iload_n 1, 1) := by decide +kernel
theorem dX6_remembers_92 : decode cX6_remembers 92 = .ok (.iconst 1, 1) := by decide +kernel
theorem dX6_remembers_93 : decode cX6_remembers 93 = .ok (.iadd, 1) := by decide +kernel
theorem dX6_remembers_94 : decode cX6_remembers 94 = .ok (.imul, 1) := by decide +kernel
theorem dX6_remembers_95 : decode cX6_remembers 95 = .ok (.iload_n 2, 1) := by decide +kernel
theorem dX6_remembers_96 : decode cX6_remembers 96 = .ok (.iadd, 1) := by decide +kernel
theorem dX6_remembers_97 : decode cX6_remembers 97 = .ok (.iaload, 1) := by decide +kernel
theorem dX6_remembers_98 : decode cX6_remembers 98 = .ok (.iastore, 1) := by decide +kernel
theorem dX6_remembers_99 : decode cX6_remembers 99 = .ok (.iinc 2 1, 3) := by decide +kernel
theorem dX6_remembers_102 : decode cX6_remembers 102 = .ok (.goto (-57), 3) := by decide +kernel
theorem dX6_remembers_105 : decode cX6_remembers 105 = .ok (.iconst 0, 1) := by decide +kernel
theorem dX6_remembers_106 : decode cX6_remembers 106 = .ok (.istore_n 2, 1) := by decide +kernel
theorem dX6_remembers_107 : decode cX6_remembers 107 = .ok (.iload_n 2, 1) := by decide +kernel
theorem dX6_remembers_108 : decode cX6_remembers 108 = .ok (.sipush 150, 3) := by decide +kernel
theorem dX6_remembers_111 : decode cX6_remembers 111 = .ok (.if_icmp .ge 35, 3) := by decide +kernel
theorem dX6_remembers_114 : decode cX6_remembers 114 = .ok (.aload_n 0, 1) := by decide +kernel
theorem dX6_remembers_115 : decode cX6_remembers 115 = .ok (.getfield 71, 3) := by decide +kernel
theorem dX6_remembers_118 : decode cX6_remembers 118 = .ok (.sipush 150, 3) := by decide +kernel
theorem dX6_remembers_121 : decode cX6_remembers 121 = .ok (.iload_n 1, 1) := by decide +kernel
theorem dX6_remembers_122 : decode cX6_remembers 122 = .ok (.imul, 1) := by decide +kernel
theorem dX6_remembers_123 : decode cX6_remembers 123 = .ok (.iload_n 2, 1) := by decide +kernel
theorem dX6_remembers_124 : decode cX6_remembers 124 = .ok (.iadd, 1) := by decide +kernel
theorem dX6_remembers_125 : decode cX6_remembers 125 = .ok (.aload_n 0, 1) := by decide +kernel
theorem dX6_remembers_126 : decode cX6_remembers 126 = .ok (.getfield 71, 3) := by decide +kernel
theorem dX6_remembers_129 : decode cX6_remembers 129 = .ok (.sipush 150, 3) := by decide +kernel
theorem dX6_remembers_132 : decode cX6_remembers 132 = .ok (.iload_n 1, 1) := by decide +kernel
theorem dX6_remembers_133 : decode cX6_remembers 133 = .ok (.iconst 1, 1) := by decide +kernel
theorem dX6_remembers_134 : decode cX6_remembers 134 = .ok (.iadd, 1) := by decide +kernel
theorem dX6_remembers_135 : decode cX6_remembers 135 = .ok (.imul, 1) := by decide +kernel
theorem dX6_remembers_136 : decode cX6_remembers 136 = .ok (.iload_n 2, 1) := by decide +kernel
theorem dX6_remembers_137 : decode cX6_remembers 137 = .ok (.iadd, 1) := by decide +kernel
theorem dX6_remembers_138 : decode cX6_remembers 138 = .ok (.iaload, 1) := by decide +kernel
theorem dX6_remembers_139 : decode cX6_remembers 139 = .ok (.iastore, 1) := by decide +kernel
theorem dX6_remembers_140 : decode cX6_remembers 140 = .ok (.iinc 2 1, 3) := by decide +kernel
theorem dX6_remembers_143 : decode cX6_remembers 143 = .ok (.goto (-36), 3) := by decide +kernel
theorem dX6_remembers_146 : decode cX6_remembers 146 = .ok (.iinc 1 1, 3) := by decide +kernel
theorem dX6_remembers_149 : decode cX6_remembers 149 = .ok (.goto (-128), 3) := by decide +kernel
theorem dX6_remembers_152 : decode cX6_remembers 152 = .ok (.aload_n 0, 1) := by decide +kernel
theorem dX6_remembers_153 : decode cX6_remembers 153 = .ok (.getfield 62, 3) := by decide +kernel
theorem dX6_remembers_156 : decode cX6_remembers 156 = .ok (.aload_n 0, 1) := by decide +kernel
theorem dX6_remembers_157 : decode cX6_remembers 157 = .ok (.getfield 261, 3) := by decide +kernel
theorem dX6_remembers_160 : decode cX6_remembers 160 = .ok (.aload_n 0, 1) := by decide +kernel
theorem dX6_remembers_161 : decode cX6_remembers 161 = .ok (.getfield 255, 3) := by decide +kernel
theorem dX6_remembers_164 : decode cX6_remembers 164 = .ok (.iastore, 1) := by decide +kernel
theorem dX6_remembers_165 : decode cX6_remembers 165 = .ok (.iconst 0, 1) := by decide +kernel
theorem dX6_remembers_166 : decode cX6_remembers 166 = .ok (.istore_n 1, 1) := by decide +kernel
theorem dX6_remembers_167 : decode cX6_remembers 167 = .ok (.iload_n 1, 1) := by decide +kernel
theorem dX6_remembers_168 : decode cX6_remembers 168 = .ok (.bipush 25, 2) := by decide +kernel
theorem dX6_remembers_170 : decode cX6_remembers 170 = .ok (.if_icmp .ge 49, 3) := by decide +kernel
theorem dX6_remembers_173 : decode cX6_remembers 173 = .ok (.aload_n 0, 1) := by decide +kernel
theorem dX6_remembers_174 : decode cX6_remembers 174 = .ok (.getfield 65, 3) := by decide +kernel
theorem dX6_remembers_177 : decode cX6_remembers 177 = .ok (.bipush 25, 2) := by decide +kernel
theorem dX6_remembers_179 : decode cX6_remembers 179 = .ok (.aload_n 0, 1) := by decide +kernel
theorem dX6_remembers_180 : decode cX6_remembers 180 = .ok (.getfield 261, 3) := by decide +kernel
theorem dX6_remembers_183 : decode cX6_remembers 183 = .ok (.imul, 1) := by decide +kernel
theorem dX6_remembers_184 : decode cX6_remembers 184 = .ok (.iload_n 1, 1) := by decide +kernel
theorem dX6_remembers_185 : decode cX6_remembers 185 = .ok (.iadd, 1) := by decide +kernel
theorem dX6_remembers_186 : decode cX6_remembers 186 = .ok (.aload_n 0, 1) := by decide +kernel
theorem dX6_remembers_187 : decode cX6_remembers 187 = .ok (.getfield 41, 3) := by decide +kernel
theorem dX6_remembers_190 : decode cX6_remembers 190 = .ok (.iload_n 1, 1) := by decide +kernel
theorem dX6_remembers_191 : decode cX6_remembers 191 = .ok (.iaload, 1) := by decide +kernel
theorem dX6_remembers_192 : decode cX6_remembers 192 = .ok (.iastore, 1) := by decide +kernel
theorem dX6_remembers_193 : decode cX6_remembers 193 = .ok (.aload_n 0, 1) := by decide +kernel
theorem dX6_remembers_194 : decode cX6_remembers 194 = .ok (.getfield 68, 3) := by decide +kernel
theorem dX6_remembers_197 : decode cX6_remembers 197 = .ok (.bipush 25, 2) := by decide +kernel
theorem dX6_remembers_199 : decode cX6_remembers 199 = .ok (.aload_n 0, 1) := by decide +kernel
theorem dX6_remembers_200 : decode cX6_remembers 200 = .ok (.getfield 261, 3) := by decide +kernel
theorem dX6_remembers_203 : decode cX6_remembers 203 = .ok (.imul, 1) := by decide +kernel
theorem dX6_remembers_204 : decode cX6_remembers 204 = .ok (.iload_n 1, 1) := by decide +kernel
theorem dX6_remembers_205 : decode cX6_remembers 205 = .ok (.iadd, 1) := by decide +kernel
theorem dX6_remembers_206 : decode cX6_remembers 206 = .ok (.aload_n 0, 1) := by decide +kernel
theorem dX6_remembers_207 : decode cX6_remembers 207 = .ok (.getfield 44, 3) := by decide +kernel
theorem dX6_remembers_210 : decode cX6_remembers 210 = .ok (.iload_n 1, 1) := by decide +kernel
theorem dX6_remembers_211 : decode cX6_remembers 211 = .ok (.iaload, 1) := by decide +kernel
theorem dX6_remembers_212 : decode cX6_remembers 212 = .ok (.iastore, 1) := by decide +kernel
theorem dX6_remembers_213 : decode cX6_remembers 213 = .ok (.iinc 1 1, 3) := by decide +kernel
theorem dX6_remembers_216 : decode cX6_remembers 216 = .ok (.goto (-49), 3) := by decide +kernel
theorem dX6_remembers_219 : decode cX6_remembers 219 = .ok (.iconst 0, 1) := by decide +kernel
theorem dX6_remembers_220 : decode cX6_remembers 220 = .ok (.istore_n 1, 1) := by decide +kernel
theorem dX6_remembers_221 : decode cX6_remembers 221 = .ok (.iload_n 1, 1) := by decide +kernel
theorem dX6_remembers_222 : decode cX6_remembers 222 = .ok (.sipush 150, 3) := by decide +kernel
theorem dX6_remembers_225 : decode cX6_remembers 225 = .ok (.if_icmp .ge 30, 3) := by decide +kernel
theorem dX6_remembers_228 : decode cX6_remembers 228 = .ok (.aload_n 0, 1) := by decide +kernel
theorem dX6_remembers_229 : decode cX6_remembers 229 = .ok (.getfield 71, 3) := by decide +kernel
theorem dX6_remembers_232 : decode cX6_remembers 232 = .ok (.sipush 150, 3) := by decide +kernel
theorem dX6_remembers_235 : decode cX6_remembers 235 = .ok (.aload_n 0, 1) := by decide +kernel
theorem dX6_remembers_236 : decode cX6_remembers 236 = .ok (.getfield 261, 3) := by decide +kernel
theorem dX6_remembers_239 : decode cX6_remembers 239 = .ok (.imul, 1) := by decide +kernel
theorem dX6_remembers_240 : decode cX6_remembers 240 = .ok (.iload_n 1, 1) := by decide +kernel
theorem dX6_remembers_241 : decode cX6_remembers 241 = .ok (.iadd, 1) := by decide +kernel
theorem dX6_remembers_242 : decode cX6_remembers 242 = .ok (.aload_n 0, 1) := by decide +kernel
theorem dX6_remembers_243 : decode cX6_remembers 243 = .ok (.getfield 47, 3) := by decide +kernel
theorem dX6_remembers_246 : decode cX6_remembers 246 = .ok (.iload_n 1, 1) := by decide +kernel
theorem dX6_remembers_247 : decode cX6_remembers 247 = .ok (.iaload, 1) := by decide +kernel
theorem dX6_remembers_248 : decode cX6_remembers 248 = .ok (.iastore, 1) := by decide +kernel
theorem dX6_remembers_249 : decode cX6_remembers 249 = .ok (.iinc 1 1, 3) := by decide +kernel
theorem dX6_remembers_252 : decode cX6_remembers 252 = .ok (.goto (-31), 3) := by decide +kernel
theorem dX6_remembers_255 : decode cX6_remembers 255 = .ok (.aload_n 0, 1) := by decide +kernel
theorem dX6_remembers_256 : decode cX6_remembers 256 = .ok (.dup, 1) := by decide +kernel
theorem dX6_remembers_257 : decode cX6_remembers 257 = .ok (.getfield 261, 3) := by decide +kernel
theorem dX6_remembers_260 : decode cX6_remembers 260 = .ok (.iconst 1, 1) := by decide +kernel
theorem dX6_remembers_261 : decode cX6_remembers 261 = .ok (.iadd, 1) := by decide +kernel
theorem dX6_remembers_262 : decode cX6_remembers 262 = .ok (.putfield 261, 3) := by decide +kernel
theorem dX6_remembers_265 : decode cX6_remembers 265 = .ok (.return_, 1) := by decide +kernel
theorem dX6_undo_0 : decode cX6_undo 0 = .ok (.aload_n 0, 1) := by decide +kernel
theorem dX6_undo_1 : decode cX6_undo 1 = .ok (.iconst 0, 1) := by decide +kernel
theorem dX6_undo_2 : decode cX6_undo 2 = .ok (.putfield 77, 3) := by decide +kernel
theorem dX6_undo_5 : decode cX6_undo 5 = .ok (.aload_n 0, 1) := by decide +kernel
theorem dX6_undo_6 : decode cX6_undo 6 = .ok (.getfield 264, 3) := by decide +kernel
theorem dX6_undo_9 : decode cX6_undo 9 = .ok (.ifCond .ne 9, 3) := by decide +kernel
theorem dX6_undo_12 : decode cX6_undo 12 = .ok (.aload_n 0, 1) := by decide +kernel
theorem dX6_undo_13 : decode cX6_undo 13 = .ok (.iconst 1, 1) := by decide +kernel
theorem dX6_undo_14 : decode cX6_undo 14 = .ok (.invokevirtual 267, 3) := by decide +kernel
theorem dX6_undo_17 : decode cX6_undo 17 = .ok (.ireturn, 1) := by decide +kernel
theorem dX6_undo_18 : decode cX6_undo 18 = .ok (.aload_n 0, 1) := by decide +kernel
theorem dX6_undo_19 : decode cX6_undo 19 = .ok (.getfield 261, 3) := by decide +kernel
theorem dX6_undo_22 : decode cX6_undo 22 = .ok (.ifCond .ne 9, 3) := by decide +kernel
theorem dX6_undo_25 : decode cX6_undo 25 = .ok (.aload_n 0, 1) := by decide +kernel
theorem dX6_undo_26 : decode cX6_undo 26 = .ok (.iconst 5, 1) := by decide +kernel
theorem dX6_undo_27 : decode cX6_undo 27 = .ok (.invokevirtual 267, 3) := by decide +kernel
theorem dX6_undo_30 : decode cX6_undo 30 = .ok (.ireturn, 1) := by decide +kernel
theorem dX6_undo_31 : decode cX6_undo 31 = .ok (.aload_n 0, 1) := by decide +kernel
theorem dX6_undo_32 : decode cX6_undo 32 = .ok (.dup, 1) := by decide +kernel
theorem dX6_undo_33 : decode cX6_undo 33 = .ok (.getfield 261, 3) := by decide +kernel
theorem dX6_undo_36 : decode cX6_undo 36 = .ok (.iconst 1, 1) := by decide +kernel
theorem dX6_undo_37 : decode cX6_undo 37 = .ok (.isub, 1) := by decide +kernel
theorem dX6_undo_38 : decode cX6_undo 38 = .ok (.putfield 261, 3) := by decide +kernel
theorem dX6_undo_41 : decode cX6_undo 41 = .ok (.aload_n 0, 1) := by decide +kernel
theorem dX6_undo_42 : decode cX6_undo 42 = .ok (.aload_n 0, 1) := by decide +kernel
theorem dX6_undo_43 : decode cX6_undo 43 = .ok (.getfield 62, 3) := by decide +kernel
theorem dX6_undo_46 : decode cX6_undo 46 = .ok (.aload_n 0, 1) := by decide +kernel
theorem dX6_undo_47 : decode cX6_undo 47 = .ok (.getfield 261, 3) := by decide +kernel
theorem dX6_undo_50 : decode cX6_undo 50 = .ok (.iaload, 1) := by decide +kernel
theorem dX6_undo_51 : decode cX6_undo 51 = .ok (.putfield 255, 3) := by decide +kernel
theorem dX6_undo_54 : decode cX6_undo 54 = .ok (.iconst 0, 1) := by decide +kernel
theorem dX6_undo_55 : decode cX6_undo 55 = .ok (.istore_n 1, 1) := by decide +kernel
theorem dX6_undo_56 : decode cX6_undo 56 = .ok (.iload_n 1, 1) := by decide +kernel
theorem dX6_undo_57 : decode cX6_undo 57 = .ok (.bipush 25, 2) := by decide +kernel
theorem dX6_undo_59 : decode cX6_undo 59 = .ok (.if_icmp .ge 49, 3) := by decide +kernel
theorem dX6_undo_62 : decode cX6_undo 62 = .ok (.aload_n 0, 1) := by decide +kernel
theorem dX6_undo_63 : decode cX6_undo 63 = .ok (.getfield 41, 3) := by decide +kernel
theorem dX6_undo_66 : decode cX6_undo 66 = .ok (.iload_n 1, 1) := by decide +kernel
theorem dX6_undo_67 : decode cX6_undo 67 = .ok (.aload_n 0, 1) := by decide +kernel
theorem dX6_undo_68 : decode cX6_undo 68 = .ok (.getfield 65, 3) := by decide +kernel
theorem dX6_undo_71 : decode cX6_undo 71 = .ok (.bipush 25, 2) := by decide +kernel
theorem dX6_undo_73 : decode cX6_undo 73 = .ok (.aload_n 0, 1) := by decide +kernel
theorem dX6_undo_74 : decode cX6_undo 74 = .ok (.getfield 261, 3) := by decide +kernel
theorem dX6_undo_77 : decode cX6_undo 77 = .ok (.imul, 1) := by decide +kernel
theorem dX6_undo_78 : decode cX6_undo 78 = .ok (.iload_n 1, 1) := by decide +kernel
theorem dX6_undo_79 : decode cX6_undo 79 = .ok (.iadd, 1) := by decide +kernel
theorem dX6_undo_80 : decode cX6_undo 80 = .ok (.iaload, 1) := by decide +kernel
theorem dX6_undo_81 : decode cX6_undo 81 = .ok (.iastore, 1) := by decide +kernel
theorem dX6_undo_82 : decode cX6_undo 82 = .ok (.aload_n 0, 1) := by decide +kernel
theorem dX6_undo_83 : decode cX6_undo 83 = .ok (.getfield 44, 3) := by decide +kernel
theorem dX6_undo_86 : decode cX6_undo 86 = .ok (.iload_n 1, 1) := by decide +kernel
theorem dX6_undo_87 : decode cX6_undo 87 = .ok (.aload_n 0, 1) := by decide +kernel
theorem dX6_undo_88 : decode cX6_undo 88 = .ok (.getfield 68, 3) := by decide +kernel
theorem dX6_undo_91 : decode cX6_undo 91 = .ok (.bipush 25, 2) := by decide +kernel
theorem dX6_undo_93 : decode cX6_undo 93 = .ok (.aload_n 0, 1) := by decide +kernel
theorem dX6_undo_94 : decode cX6_undo 94 = .ok (.getfield 261, 3) := by decide +kernel
theorem dX6_undo_97 : decode cX6_undo 97 = .ok (.imul, 1) := by decide +kernel
theorem dX6_undo_98 : decode cX6_undo 98 = .ok (.iload_n 1, 1) := by decide +kernel
theorem dX6_undo_99 : decode cX6_undo 99 = .ok (.iadd, 1) := by decide +kernel
theorem dX6_undo_100 : decode cX6_undo 100 = .ok (.iaload, 1) := by decide +kernel
theorem dX6_undo_101 : decode cX6_undo 101 = .ok (.iastore, 1) := by decide +kernel
theorem dX6_undo_102 : decode cX6_undo 102 = .ok (.iinc 1 1, 3) := by decide +kernel
theorem dX6_undo_105 : decode cX6_undo 105 = .ok (.goto (-49), 3) := by decide +kernel
theorem dX6_undo_108 : decode cX6_undo 108 = .ok (.iconst 0, 1) := by decide +kernel
theorem dX6_undo_109 : decode cX6_undo 109 = .ok (.istore_n 1, 1) := by decide +kernel
theorem dX6_undo_110 : decode cX6_undo 110 = .ok (.iload_n 1, 1) := by decide +kernel
theorem dX6_undo_111 : decode cX6_undo 111 = .ok (.sipush 150, 3) := by decide +kernel
theorem dX6_undo_114 : decode cX6_undo 114 = .ok (.if_icmp .ge 30, 3) := by decide +kernel
theorem dX6_undo_117 : decode cX6_undo 117 = .ok (.aload_n 0, 1) := by decide +kernel
theorem dX6_undo_118 : decode cX6_undo 118 = .ok (.getfield 47, 3) := by decide +kernel
theorem dX6_undo_121 : decode cX6_undo 121 = .ok (.iload_n 1, 1) := by decide +kernel
theorem dX6_undo_122 : decode cX6_undo 122 = .ok (.aload_n 0, 1) := by decide +kernel
theorem dX6_undo_123 : decode cX6_undo 123 = .ok (.getfield 71, 3) := by decide +kernel
theorem dX6_undo_126 : decode cX6_undo 126 = .ok (.sipush 150, 3) := by decide +kernel
theorem dX6_undo_129 : decode cX6_undo 129 = .ok (.aload_n 0, 1) := by decide +kernel
theorem dX6_undo_130 : decode cX6_undo 130 = .ok (.getfield 261, 3) := by decide +kernel
theorem dX6_undo_133 : decode cX6_undo 133 = .ok (.imul, 1) := by decide +kernel
theorem dX6_undo_134 : decode cX6_undo 134 = .ok (.iload_n 1, 1) := by decide +kernel
theorem dX6_undo_135 : decode cX6_undo 135 = .ok (.iadd, 1) := by decide +kernel
theorem dX6_undo_136 : decode cX6_undo 136 = .ok (.iaload, 1) := by decide +kernel
theorem dX6_undo_137 : decode cX6_undo 137 = .ok (.iastore, 1) := by decide +kernel
theorem dX6_undo_138 : decode cX6_undo 138 = .ok (.iinc 1 1, 3) := by decide +kernel
theorem dX6_undo_141 : decode cX6_undo 141 = .ok (.goto (-31), 3) := by decide +kernel
theorem dX6_undo_144 : decode cX6_undo 144 = .ok (.aload_n 0, 1) := by decide +kernel
theorem dX6_undo_145 : decode cX6_undo 145 = .ok (.aload_n 0, 1) := by decide +kernel
theorem dX6_undo_146 : decode cX6_undo 146 = .ok (.getfield 261, 3) := by decide +kernel
theorem dX6_undo_149 : decode cX6_undo 149 = .ok (.invokevirtual 270, 3) := by decide +kernel
theorem dX6_undo_152 : decode cX6_undo 152 = .ok (.ireturn, 1) := by decide +kernel
theorem dX6_fan_0 : decode cX6_fan 0 = .ok (.aload_n 0, 1) := by decide +kernel
theorem dX6_fan_1 : decode cX6_fan 1 = .ok (.iconst 0, 1) := by decide +kernel
theorem dX6_fan_2 : decode cX6_fan 2 = .ok (.putfield 77, 3) := by decide +kernel
theorem dX6_fan_5 : decode cX6_fan 5 = .ok (.iload_n 1, 1) := by decide +kernel
theorem dX6_fan_6 : decode cX6_fan 6 = .ok (.i2l, 1) := by decide +kernel
theorem dX6_fan_7 : decode cX6_fan 7 = .ok (.lconst 0, 1) := by decide +kernel
theorem dX6_fan_8 : decode cX6_fan 8 = .ok (.aload_n 0, 1) := by decide +kernel
theorem dX6_fan_9 : decode cX6_fan 9 = .ok (.getfield 89, 3) := by decide +kernel
theorem dX6_fan_12 : decode cX6_fan 12 = .ok (.i2l, 1) := by decide +kernel
theorem dX6_fan_13 : decode cX6_fan 13 = .ok (.invokestatic 108, 3) := by decide +kernel
theorem dX6_fan_16 : decode cX6_fan 16 = .ok (.ifCond .ne 9, 3) := by decide +kernel
theorem dX6_fan_19 : decode cX6_fan 19 = .ok (.aload_n 0, 1) := by decide +kernel
theorem dX6_fan_20 : decode cX6_fan 20 = .ok (.iconst 2, 1) := by decide +kernel
theorem dX6_fan_21 : decode cX6_fan 21 = .ok (.invokevirtual 267, 3) := by decide +kernel
theorem dX6_fan_24 : decode cX6_fan 24 = .ok (.ireturn, 1) := by decide +kernel
theorem dX6_fan_25 : decode cX6_fan 25 = .ok (.aload_n 0, 1) := by decide +kernel
theorem dX6_fan_26 : decode cX6_fan 26 = .ok (.iload_n 1, 1) := by decide +kernel
theorem dX6_fan_27 : decode cX6_fan 27 = .ok (.putfield 101, 3) := by decide +kernel
theorem dX6_fan_30 : decode cX6_fan 30 = .ok (.aload_n 0, 1) := by decide +kernel
theorem dX6_fan_31 : decode cX6_fan 31 = .ok (.iconst 0, 1) := by decide +kernel
theorem dX6_fan_32 : decode cX6_fan 32 = .ok (.putfield 89, 3) := by decide +kernel
theorem dX6_fan_35 : decode cX6_fan 35 = .ok (.aload_n 0, 1) := by decide +kernel
theorem dX6_fan_36 : decode cX6_fan 36 = .ok (.iconst 0, 1) := by decide +kernel
theorem dX6_fan_37 : decode cX6_fan 37 = .ok (.putfield 116, 3) := by decide +kernel
theorem dX6_fan_40 : decode cX6_fan 40 = .ok (.aload_n 0, 1) := by decide +kernel
theorem dX6_fan_41 : decode cX6_fan 41 = .ok (.iconst 0, 1) := by decide +kernel
theorem dX6_fan_42 : decode cX6_fan 42 = .ok (.putfield 92, 3) := by decide +kernel
theorem dX6_fan_45 : decode cX6_fan 45 = .ok (.aload_n 0, 1) := by decide +kernel
theorem dX6_fan_46 : decode cX6_fan 46 = .ok (.invokevirtual 273, 3) := by decide +kernel
theorem dX6_fan_49 : decode cX6_fan 49 = .ok (.aload_n 0, 1) := by decide +kernel
theorem dX6_fan_50 : decode cX6_fan 50 = .ok (.getfield 92, 3) := by decide +kernel
theorem dX6_fan_53 : decode cX6_fan 53 = .ok (.ifCond .le 18, 3) := by decide +kernel
theorem dX6_fan_56 : decode cX6_fan 56 = .ok (.aload_n 0, 1) := by decide +kernel
theorem dX6_fan_57 : decode cX6_fan 57 = .ok (.iconst 4, 1) := by decide +kernel
theorem dX6_fan_58 : decode cX6_fan 58 = .ok (.putfield 80, 3) := by decide +kernel
theorem dX6_fan_61 : decode cX6_fan 61 = .ok (.aload_n 0, 1) := by decide +kernel
theorem dX6_fan_62 : decode cX6_fan 62 = .ok (.aload_n 0, 1) := by decide +kernel
theorem dX6_fan_63 : decode cX6_fan 63 = .ok (.getfield 98, 3) := by decide +kernel
theorem dX6_fan_66 : decode cX6_fan 66 = .ok (.putfield 11, 3) := by decide +kernel
theorem dX6_fan_69 : decode cX6_fan 69 = .ok (.iconst (-1), 1) := by decide +kernel
theorem dX6_fan_70 : decode cX6_fan 70 = .ok (.ireturn, 1) := by decide +kernel
theorem dX6_fan_71 : decode cX6_fan 71 = .ok (.aload_n 0, 1) := by decide +kernel
theorem dX6_fan_72 : decode cX6_fan 72 = .ok (.invokevirtual 276, 3) := by decide +kernel
theorem dX6_fan_75 : decode cX6_fan 75 = .ok (.aload_n 0, 1) := by decide +kernel
theorem dX6_fan_76 : decode cX6_fan 76 = .ok (.aload_n 0, 1) := by decide +kernel
theorem dX6_fan_77 : decode cX6_fan 77 = .ok (.getfield 187, 3) := by decide +kernel
theorem dX6_fan_80 : decode cX6_fan 80 = .ok (.putfield 279, 3) := by decide +kernel
theorem dX6_fan_83 : decode cX6_fan 83 = .ok (.iconst 0, 1) := by decide +kernel
theorem dX6_fan_84 : decode cX6_fan 84 = .ok (.istore_n 2, 1) := by decide +kernel
theorem dX6_fan_85 : decode cX6_fan 85 = .ok (.iload_n 2, 1) := by decide +kernel
theorem dX6_fan_86 : decode cX6_fan 86 = .ok (.aload_n 0, 1) := by decide +kernel
theorem dX6_fan_87 : decode cX6_fan 87 = .ok (.getfield 279, 3) := by decide +kernel
theorem dX6_fan_90 : decode cX6_fan 90 = .ok (.if_icmp .ge 21, 3) := by decide +kernel
theorem dX6_fan_93 : decode cX6_fan 93 = .ok (.aload_n 0, 1) := by decide +kernel
theorem dX6_fan_94 : decode cX6_fan 94 = .ok (.getfield 26, 3) := by decide +kernel
theorem dX6_fan_97 : decode cX6_fan 97 = .ok (.iload_n 2, 1) := by decide +kernel
theorem dX6_fan_98 : decode cX6_fan 98 = .ok (.aload_n 0, 1) := by decide +kernel
theorem dX6_fan_99 : decode cX6_fan 99 = .ok (.getfield 23, 3) := by decide +kernel
theorem dX6_fan_102 : decode cX6_fan 102 = .ok (.iload_n 2, 1) := by decide +kernel
theorem dX6_fan_103 : decode cX6_fan 103 = .ok (.laload, 1) := by decide +kernel
theorem dX6_fan_104 : decode cX6_fan 104 = .ok (.lastore, 1) := by decide +kernel
theorem dX6_fan_105 : decode cX6_fan 105 = .ok (.iinc 2 1, 3) := by decide +kernel
theorem dX6_fan_108 : decode cX6_fan 108 = .ok (.goto (-23), 3) := by decide +kernel
theorem dX6_fan_111 : decode cX6_fan 111 = .ok (.aload_n 0, 1) := by decide +kernel
theorem dX6_fan_112 : decode cX6_fan 112 = .ok (.iconst 1, 1) := by decide +kernel
theorem dX6_fan_113 : decode cX6_fan 113 = .ok (.putfield 264, 3) := by decide +kernel
theorem dX6_fan_116 : decode cX6_fan 116 = .ok (.aload_n 0, 1) := by decide +kernel
theorem dX6_fan_117 : decode cX6_fan 117 = .ok (.iconst 0, 1) := by decide +kernel
theorem dX6_fan_118 : decode cX6_fan 118 = .ok (.putfield 261, 3) := by decide +kernel
theorem dX6_fan_121 : decode cX6_fan 121 = .ok (.aload_n 0, 1) := by decide +kernel
theorem dX6_fan_122 : decode cX6_fan 122 = .ok (.aload_n 0, 1) := by decide +kernel
theorem dX6_fan_123 : decode cX6_fan 123 = .ok (.getfield 255, 3) := by decide +kernel
theorem dX6_fan_126 : decode cX6_fan 126 = .ok (.invokevirtual 270, 3) := by decide +kernel
theorem dX6_fan_129 : decode cX6_fan 129 = .ok (.ireturn, 1) := by decide +kernel
theorem dX6_next_0 : decode cX6_next 0 = .ok (.iload_n 1, 1) := by decide +kernel
theorem dX6_next_1 : decode cX6_next 1 = .ok (.iconst 1, 1) := by decide +kernel
theorem dX6_next_2 : decode cX6_next 2 = .ok (.iadd, 1) := by decide +kernel
theorem dX6_next_3 : decode cX6_next 3 = .ok (.aload_n 0, 1) := by decide +kernel
theorem dX6_next_4 : decode cX6_next 4 = .ok (.getfield 255, 3) := by decide +kernel
theorem dX6_next_7 : decode cX6_next 7 = .ok (.irem, 1) := by decide +kernel
theorem dX6_next_8 : decode cX6_next 8 = .ok (.ireturn, 1) := by decide +kernel
theorem dX6_last_0 : decode cX6_last 0 = .ok (.iload_n 1, 1) := by decide +kernel
theorem dX6_last_1 : decode cX6_last 1 = .ok (.aload_n 0, 1) := by decide +kernel
theorem dX6_last_2 : decode cX6_last 2 = .ok (.getfield 255, 3) := by decide +kernel
theorem dX6_last_5 : decode cX6_last 5 = .ok (.iadd, 1) := by decide +kernel
theorem dX6_last_6 : decode cX6_last 6 = .ok (.iconst 1, 1) := by decide +kernel
theorem dX6_last_7 : decode cX6_last 7 = .ok (.isub, 1) := by decide +kernel
theorem dX6_last_8 : decode cX6_last 8 = .ok (.aload_n 0, 1) := by decide +kernel
theorem dX6_last_9 : decode cX6_last 9 = .ok (.getfield 255, 3) := by decide +kernel
theorem dX6_last_12 : decode cX6_last 12 = .ok (.irem, 1) := by decide +kernel
theorem dX6_last_13 : decode cX6_last 13 = .ok (.ireturn, 1) := by decide +kernel
theorem dX6_crossOf_0 : decode cX6_crossOf 0 = .ok (.aload_n 0, 1) := by decide +kernel
theorem dX6_crossOf_1 : decode cX6_crossOf 1 = .ok (.getfield 41, 3) := by decide +kernel
theorem dX6_crossOf_4 : decode cX6_crossOf 4 = .ok (.iload_n 1, 1) := by decide +kernel
theorem dX6_crossOf_5 : decode cX6_crossOf 5 = .ok (.iaload, 1) := by decide +kernel
theorem dX6_crossOf_6 : decode cX6_crossOf 6 = .ok (.aload_n 0, 1) := by decide +kernel
theorem dX6_crossOf_7 : decode cX6_crossOf 7 = .ok (.getfield 44, 3) := by decide +kernel
theorem dX6_crossOf_10 : decode cX6_crossOf 10 = .ok (.iload_n 1, 1) := by decide +kernel
theorem dX6_crossOf_11 : decode cX6_crossOf 11 = .ok (.iaload, 1) := by decide +kernel
theorem dX6_crossOf_12 : decode cX6_crossOf 12 = .ok (.aload_n 0, 1) := by decide +kernel
theorem dX6_crossOf_13 : decode cX6_crossOf 13 = .ok (.getfield 41, 3) := by decide +kernel
theorem dX6_crossOf_16 : decode cX6_crossOf 16 = .ok (.iload_n 2, 1) := by decide +kernel
theorem dX6_crossOf_17 : decode cX6_crossOf 17 = .ok (.iaload, 1) := by decide +kernel
theorem dX6_crossOf_18 : decode cX6_crossOf 18 = .ok (.aload_n 0, 1) := by decide +kernel
theorem dX6_crossOf_19 : decode cX6_crossOf 19 = .ok (.getfield 44, 3) := by decide +kernel
theorem dX6_crossOf_22 : decode cX6_crossOf 22 = .ok (.iload_n 2, 1) := by decide +kernel
theorem dX6_crossOf_23 : decode cX6_crossOf 23 = .ok (.iaload, 1) := by decide +kernel
theorem dX6_crossOf_24 : decode cX6_crossOf 24 = .ok (.invokestatic 227, 3) := by decide +kernel
theorem dX6_crossOf_27 : decode cX6_crossOf 27 = .ok (.ireturn, 1) := by decide +kernel
theorem dX6_turn_0 : decode cX6_turn 0 = .ok (.aload_n 0, 1) := by decide +kernel
theorem dX6_turn_1 : decode cX6_turn 1 = .ok (.iload_n 1, 1) := by decide +kernel
theorem dX6_turn_2 : decode cX6_turn 2 = .ok (.aload_n 0, 1) := by decide +kernel
theorem dX6_turn_3 : decode cX6_turn 3 = .ok (.iload_n 1, 1) := by decide +kernel
theorem dX6_turn_4 : decode cX6_turn 4 = .ok (.invokevirtual 282, 3) := by decide +kernel
theorem dX6_turn_7 : decode cX6_turn 7 = .ok (.invokevirtual 285, 3) := by decide +kernel
theorem dX6_turn_10 : decode cX6_turn 10 = .ok (.ireturn, 1) := by decide +kernel
theorem dX6_measureOf_0 : decode cX6_measureOf 0 = .ok (.lconst 1, 1) := by decide +kernel
theorem dX6_measureOf_1 : decode cX6_measureOf 1 = .ok (.lstore_n 1, 1) := by decide +kernel
theorem dX6_measureOf_2 : decode cX6_measureOf 2 = .ok (.iconst 0, 1) := by decide +kernel
theorem dX6_measureOf_3 : decode cX6_measureOf 3 = .ok (.istore_n 3, 1) := by decide +kernel
theorem dX6_measureOf_4 : decode cX6_measureOf 4 = .ok (.iload_n 3, 1) := by decide +kernel
theorem dX6_measureOf_5 : decode cX6_measureOf 5 = .ok (.aload_n 0, 1) := by decide +kernel
theorem dX6_measureOf_6 : decode cX6_measureOf 6 = .ok (.getfield 255, 3) := by decide +kernel
theorem dX6_measureOf_9 : decode cX6_measureOf 9 = .ok (.if_icmp .ge 39, 3) := by decide +kernel
theorem dX6_measureOf_12 : decode cX6_measureOf 12 = .ok (.lload_n 1, 1) := by decide +kernel
theorem dX6_measureOf_13 : decode cX6_measureOf 13 = .ok (.lload_n 1, 1) := by decide +kernel
theorem dX6_measureOf_14 : decode cX6_measureOf 14 = .ok (.aload_n 0, 1) := by decide +kernel
theorem dX6_measureOf_15 : decode cX6_measureOf 15 = .ok (.iload_n 3, 1) := by decide +kernel
theorem dX6_measureOf_16 : decode cX6_measureOf 16 = .ok (.invokevirtual 288, 3) := by decide +kernel
theorem dX6_measureOf_19 : decode cX6_measureOf 19 = .ok (.i2l, 1) := by decide +kernel
theorem dX6_measureOf_20 : decode cX6_measureOf 20 = .ok (.invokestatic 202, 3) := by decide +kernel
theorem dX6_measureOf_23 : decode cX6_measureOf 23 = .ok (.ldiv, 1) := by decide +kernel
theorem dX6_measureOf_24 : decode cX6_measureOf 24 = .ok (.aload_n 0, 1) := by decide +kernel
theorem dX6_measureOf_25 : decode cX6_measureOf 25 = .ok (.iload_n 3, 1) := by decide +kernel
theorem dX6_measureOf_26 : decode cX6_measureOf 26 = .ok (.invokevirtual 288, 3) := by decide +kernel
theorem dX6_measureOf_29 : decode cX6_measureOf 29 = .ok (.i2l, 1) := by decide +kernel
theorem dX6_measureOf_30 : decode cX6_measureOf 30 = .ok (.lmul, 1) := by decide +kernel
theorem dX6_measureOf_31 : decode cX6_measureOf 31 = .ok (.lstore_n 1, 1) := by decide +kernel
theorem dX6_measureOf_32 : decode cX6_measureOf 32 = .ok (.lload_n 1, 1) := by decide +kernel
theorem dX6_measureOf_33 : decode cX6_measureOf 33 = .ok (.ldc2_w 291, 3) := by decide +kernel
theorem dX6_measureOf_36 : decode cX6_measureOf 36 = .ok (.lcmp, 1) := by decide +kernel
theorem dX6_measureOf_37 : decode cX6_measureOf 37 = .ok (.ifCond .le 5, 3) := by decide +kernel
theorem dX6_measureOf_40 : decode cX6_measureOf 40 = .ok (.lconst 0, 1) := by decide +kernel
theorem dX6_measureOf_41 : decode cX6_measureOf 41 = .ok (.lreturn, 1) := by decide +kernel
theorem dX6_measureOf_42 : decode cX6_measureOf 42 = .ok (.iinc 3 1, 3) := by decide +kernel
theorem dX6_measureOf_45 : decode cX6_measureOf 45 = .ok (.goto (-41), 3) := by decide +kernel
theorem dX6_measureOf_48 : decode cX6_measureOf 48 = .ok (.lload_n 1, 1) := by decide +kernel
theorem dX6_measureOf_49 : decode cX6_measureOf 49 = .ok (.lreturn, 1) := by decide +kernel
theorem dX6_isRay_0 : decode cX6_isRay 0 = .ok (.aload_n 0, 1) := by decide +kernel
theorem dX6_isRay_1 : decode cX6_isRay 1 = .ok (.getfield 264, 3) := by decide +kernel
theorem dX6_isRay_4 : decode cX6_isRay 4 = .ok (.ifCond .eq 23, 3) := by decide +kernel
theorem dX6_isRay_7 : decode cX6_isRay 7 = .ok (.iload_n 1, 1) := by decide +kernel
theorem dX6_isRay_8 : decode cX6_isRay 8 = .ok (.i2l, 1) := by decide +kernel
theorem dX6_isRay_9 : decode cX6_isRay 9 = .ok (.lconst 0, 1) := by decide +kernel
theorem dX6_isRay_10 : decode cX6_isRay 10 = .ok (.aload_n 0, 1) := by decide +kernel
theorem dX6_isRay_11 : decode cX6_isRay 11 = .ok (.getfield 255, 3) := by decide +kernel
theorem dX6_isRay_14 : decode cX6_isRay 14 = .ok (.iconst 1, 1) := by decide +kernel
theorem dX6_isRay_15 : decode cX6_isRay 15 = .ok (.isub, 1) := by decide +kernel
theorem dX6_isRay_16 : decode cX6_isRay 16 = .ok (.i2l, 1) := by decide +kernel
theorem dX6_isRay_17 : decode cX6_isRay 17 = .ok (.invokestatic 108, 3) := by decide +kernel
theorem dX6_isRay_20 : decode cX6_isRay 20 = .ok (.ifCond .eq 7, 3) := by decide +kernel
theorem dX6_isRay_23 : decode cX6_isRay 23 = .ok (.iconst 1, 1) := by decide +kernel
theorem dX6_isRay_24 : decode cX6_isRay 24 = .ok (.goto 4, 3) := by decide +kernel
theorem dX6_isRay_27 : decode cX6_isRay 27 = .ok (.iconst 0, 1) := by decide +kernel
theorem dX6_isRay_28 : decode cX6_isRay 28 = .ok (.ireturn, 1) := by decide +kernel
theorem dX6_isLoad_0 : decode cX6_isLoad 0 = .ok (.aload_n 0, 1) := by decide +kernel
theorem dX6_isLoad_1 : decode cX6_isLoad 1 = .ok (.getfield 264, 3) := by decide +kernel
theorem dX6_isLoad_4 : decode cX6_isLoad 4 = .ok (.ifCond .eq 23, 3) := by decide +kernel
theorem dX6_isLoad_7 : decode cX6_isLoad 7 = .ok (.iload_n 1, 1) := by decide +kernel
theorem dX6_isLoad_8 : decode cX6_isLoad 8 = .ok (.i2l, 1) := by decide +kernel
theorem dX6_isLoad_9 : decode cX6_isLoad 9 = .ok (.lconst 0, 1) := by decide +kernel
theorem dX6_isLoad_10 : decode cX6_isLoad 10 = .ok (.aload_n 0, 1) := by decide +kernel
theorem dX6_isLoad_11 : decode cX6_isLoad 11 = .ok (.getfield 279, 3) := by decide +kernel
theorem dX6_isLoad_14 : decode cX6_isLoad 14 = .ok (.iconst 1, 1) := by decide +kernel
theorem dX6_isLoad_15 : decode cX6_isLoad 15 = .ok (.isub, 1) := by decide +kernel
theorem dX6_isLoad_16 : decode cX6_isLoad 16 = .ok (.i2l, 1) := by decide +kernel
theorem dX6_isLoad_17 : decode cX6_isLoad 17 = .ok (.invokestatic 108, 3) := by decide +kernel
theorem dX6_isLoad_20 : decode cX6_isLoad 20 = .ok (.ifCond .eq 7, 3) := by decide +kernel
theorem dX6_isLoad_23 : decode cX6_isLoad 23 = .ok (.iconst 1, 1) := by decide +kernel
theorem dX6_isLoad_24 : decode cX6_isLoad 24 = .ok (.goto 4, 3) := by decide +kernel
theorem dX6_isLoad_27 : decode cX6_isLoad 27 = .ok (.iconst 0, 1) := by decide +kernel
theorem dX6_isLoad_28 : decode cX6_isLoad 28 = .ok (.ireturn, 1) := by decide +kernel
theorem dX6_canGo_0 : decode cX6_canGo 0 = .ok (.aload_n 0, 1) := by decide +kernel
theorem dX6_canGo_1 : decode cX6_canGo 1 = .ok (.getfield 255, 3) := by decide +kernel
theorem dX6_canGo_4 : decode cX6_canGo 4 = .ok (.iconst 4, 1) := by decide +kernel
theorem dX6_canGo_5 : decode cX6_canGo 5 = .ok (.if_icmp .lt 24, 3) := by decide +kernel
theorem dX6_canGo_8 : decode cX6_canGo 8 = .ok (.aload_n 0, 1) := by decide +kernel
theorem dX6_canGo_9 : decode cX6_canGo 9 = .ok (.aload_n 0, 1) := by decide +kernel
theorem dX6_canGo_10 : decode cX6_canGo 10 = .ok (.iload_n 1, 1) := by decide +kernel
theorem dX6_canGo_11 : decode cX6_canGo 11 = .ok (.invokevirtual 293, 3) := by decide +kernel
theorem dX6_canGo_14 : decode cX6_canGo 14 = .ok (.aload_n 0, 1) := by decide +kernel
theorem dX6_canGo_15 : decode cX6_canGo 15 = .ok (.iload_n 1, 1) := by decide +kernel
theorem dX6_canGo_16 : decode cX6_canGo 16 = .ok (.invokevirtual 282, 3) := by decide +kernel
theorem dX6_canGo_19 : decode cX6_canGo 19 = .ok (.invokevirtual 285, 3) := by decide +kernel
theorem dX6_canGo_22 : decode cX6_canGo 22 = .ok (.ifCond .le 7, 3) := by decide +kernel
theorem dX6_canGo_25 : decode cX6_canGo 25 = .ok (.iconst 1, 1) := by decide +kernel
theorem dX6_canGo_26 : decode cX6_canGo 26 = .ok (.goto 4, 3) := by decide +kernel
theorem dX6_canGo_29 : decode cX6_canGo 29 = .ok (.iconst 0, 1) := by decide +kernel
theorem dX6_canGo_30 : decode cX6_canGo 30 = .ok (.ireturn, 1) := by decide +kernel
theorem dX6_isLight_0 : decode cX6_isLight 0 = .ok (.aload_n 0, 1) := by decide +kernel
theorem dX6_isLight_1 : decode cX6_isLight 1 = .ok (.iload_n 1, 1) := by decide +kernel
theorem dX6_isLight_2 : decode cX6_isLight 2 = .ok (.invokevirtual 296, 3) := by decide +kernel
theorem dX6_isLight_5 : decode cX6_isLight 5 = .ok (.ifCond .eq 67, 3) := by decide +kernel
theorem dX6_isLight_8 : decode cX6_isLight 8 = .ok (.aload_n 0, 1) := by decide +kernel
theorem dX6_isLight_9 : decode cX6_isLight 9 = .ok (.getfield 41, 3) := by decide +kernel
theorem dX6_isLight_12 : decode cX6_isLight 12 = .ok (.iload_n 1, 1) := by decide +kernel
theorem dX6_isLight_13 : decode cX6_isLight 13 = .ok (.iaload, 1) := by decide +kernel
theorem dX6_isLight_14 : decode cX6_isLight 14 = .ok (.aload_n 0, 1) := by decide +kernel
theorem dX6_isLight_15 : decode cX6_isLight 15 = .ok (.getfield 41, 3) := by decide +kernel
theorem dX6_isLight_18 : decode cX6_isLight 18 = .ok (.aload_n 0, 1) := by decide +kernel
theorem dX6_isLight_19 : decode cX6_isLight 19 = .ok (.iload_n 1, 1) := by decide +kernel
theorem dX6_isLight_20 : decode cX6_isLight 20 = .ok (.invokevirtual 293, 3) := by decide +kernel
theorem dX6_isLight_23 : decode cX6_isLight 23 = .ok (.iaload, 1) := by decide +kernel
theorem dX6_isLight_24 : decode cX6_isLight 24 = .ok (.aload_n 0, 1) := by decide +kernel
theorem dX6_isLight_25 : decode cX6_isLight 25 = .ok (.getfield 41, 3) := by decide +kernel
theorem dX6_isLight_28 : decode cX6_isLight 28 = .ok (.aload_n 0, 1) := by decide +kernel
theorem dX6_isLight_29 : decode cX6_isLight 29 = .ok (.iload_n 1, 1) := by decide +kernel
theorem dX6_isLight_30 : decode cX6_isLight 30 = .ok (.invokevirtual 282, 3) := by decide +kernel
theorem dX6_isLight_33 : decode cX6_isLight 33 = .ok (.iaload, 1) := by decide +kernel
theorem dX6_isLight_34 : decode cX6_isLight 34 = .ok (.iadd, 1) := by decide +kernel
theorem dX6_isLight_35 : decode cX6_isLight 35 = .ok (.if_icmp .ne 37, 3) := by decide +kernel
theorem dX6_isLight_38 : decode cX6_isLight 38 = .ok (.aload_n 0, 1) := by decide +kernel
theorem dX6_isLight_39 : decode cX6_isLight 39 = .ok (.getfield 44, 3) := by decide +kernel
theorem dX6_isLight_42 : decode cX6_isLight 42 = .ok (.iload_n 1, 1) := by decide +kernel
theorem dX6_isLight_43 : decode cX6_isLight 43 = .ok (.iaload, 1) := by decide +kernel
theorem dX6_isLight_44 : decode cX6_isLight 44 = .ok (.aload_n 0, 1) := by decide +kernel
theorem dX6_isLight_45 : decode cX6_isLight 45 = .ok (.getfield 44, 3) := by decide +kernel
theorem dX6_isLight_48 : decode cX6_isLight 48 = .ok (.aload_n 0, 1) := by decide +kernel
theorem dX6_isLight_49 : decode cX6_isLight 49 = .ok (.iload_n 1, 1) := by decide +kernel
theorem dX6_isLight_50 : decode cX6_isLight 50 = .ok (.invokevirtual 293, 3) := by decide +kernel
theorem dX6_isLight_53 : decode cX6_isLight 53 = .ok (.iaload, 1) := by decide +kernel
theorem dX6_isLight_54 : decode cX6_isLight 54 = .ok (.aload_n 0, 1) := by decide +kernel
theorem dX6_isLight_55 : decode cX6_isLight 55 = .ok (.getfield 44, 3) := by decide +kernel
theorem dX6_isLight_58 : decode cX6_isLight 58 = .ok (.aload_n 0, 1) := by decide +kernel
theorem dX6_isLight_59 : decode cX6_isLight 59 = .ok (.iload_n 1, 1) := by decide +kernel
theorem dX6_isLight_60 : decode cX6_isLight 60 = .ok (.invokevirtual 282, 3) := by decide +kernel
theorem dX6_isLight_63 : decode cX6_isLight 63 = .ok (.iaload, 1) := by decide +kernel
theorem dX6_isLight_64 : decode cX6_isLight 64 = .ok (.iadd, 1) := by decide +kernel
theorem dX6_isLight_65 : decode cX6_isLight 65 = .ok (.if_icmp .ne 7, 3) := by decide +kernel
theorem dX6_isLight_68 : decode cX6_isLight 68 = .ok (.iconst 1, 1) := by decide +kernel
theorem dX6_isLight_69 : decode cX6_isLight 69 = .ok (.goto 4, 3) := by decide +kernel
theorem dX6_isLight_72 : decode cX6_isLight 72 = .ok (.iconst 0, 1) := by decide +kernel
theorem dX6_isLight_73 : decode cX6_isLight 73 = .ok (.ireturn, 1) := by decide +kernel
theorem dX6_about_0 : decode cX6_about 0 = .ok (.aload_n 0, 1) := by decide +kernel
theorem dX6_about_1 : decode cX6_about 1 = .ok (.iconst 0, 1) := by decide +kernel
theorem dX6_about_2 : decode cX6_about 2 = .ok (.putfield 77, 3) := by decide +kernel
theorem dX6_about_5 : decode cX6_about 5 = .ok (.aload_n 0, 1) := by decide +kernel
theorem dX6_about_6 : decode cX6_about 6 = .ok (.getfield 264, 3) := by decide +kernel
theorem dX6_about_9 : decode cX6_about 9 = .ok (.ifCond .ne 9, 3) := by decide +kernel
theorem dX6_about_12 : decode cX6_about 12 = .ok (.aload_n 0, 1) := by decide +kernel
theorem dX6_about_13 : decode cX6_about 13 = .ok (.iconst 1, 1) := by decide +kernel
theorem dX6_about_14 : decode cX6_about 14 = .ok (.invokevirtual 267, 3) := by decide +kernel
theorem dX6_about_17 : decode cX6_about 17 = .ok (.ireturn, 1) := by decide +kernel
theorem dX6_about_18 : decode cX6_about 18 = .ok (.iconst 0, 1) := by decide +kernel
theorem dX6_about_19 : decode cX6_about 19 = .ok (.istore_n 2, 1) := by decide +kernel
theorem dX6_about_20 : decode cX6_about 20 = .ok (.iload_n 1, 1) := by decide +kernel
theorem dX6_about_21 : decode cX6_about 21 = .ok (.tableswitch 286 0 7 #[47, 56, 65, 104, 145, 197, 206, 246], 47) := by decide +kernel
theorem dX6_about_68 : decode cX6_about 68 = .ok (.aload_n 0, 1) := by decide +kernel
theorem dX6_about_69 : decode cX6_about 69 = .ok (.aload_n 0, 1) := by decide +kernel
theorem dX6_about_70 : decode cX6_about 70 = .ok (.getfield 255, 3) := by decide +kernel
theorem dX6_about_73 : decode cX6_about 73 = .ok (.invokevirtual 270, 3) := by decide +kernel
theorem dX6_about_76 : decode cX6_about 76 = .ok (.ireturn, 1) := by decide +kernel
theorem dX6_about_77 : decode cX6_about 77 = .ok (.aload_n 0, 1) := by decide +kernel
theorem dX6_about_78 : decode cX6_about 78 = .ok (.aload_n 0, 1) := by decide +kernel
theorem dX6_about_79 : decode cX6_about 79 = .ok (.getfield 279, 3) := by decide +kernel
theorem dX6_about_82 : decode cX6_about 82 = .ok (.invokevirtual 270, 3) := by decide +kernel
theorem dX6_about_85 : decode cX6_about 85 = .ok (.ireturn, 1) := by decide +kernel
theorem dX6_about_86 : decode cX6_about 86 = .ok (.iconst 0, 1) := by decide +kernel
theorem dX6_about_87 : decode cX6_about 87 = .ok (.istore_n 3, 1) := by decide +kernel
theorem dX6_about_88 : decode cX6_about 88 = .ok (.iload_n 3, 1) := by decide +kernel
theorem dX6_about_89 : decode cX6_about 89 = .ok (.aload_n 0, 1) := by decide +kernel
theorem dX6_about_90 : decode cX6_about 90 = .ok (.getfield 255, 3) := by decide +kernel
theorem dX6_about_93 : decode cX6_about 93 = .ok (.if_icmp .ge 26, 3) := by decide +kernel
theorem dX6_about_96 : decode cX6_about 96 = .ok (.iload_n 2, 1) := by decide +kernel
theorem dX6_about_97 : decode cX6_about 97 = .ok (.aload_n 0, 1) := by decide +kernel
theorem dX6_about_98 : decode cX6_about 98 = .ok (.iload_n 3, 1) := by decide +kernel
theorem dX6_about_99 : decode cX6_about 99 = .ok (.invokevirtual 288, 3) := by decide +kernel
theorem dX6_about_102 : decode cX6_about 102 = .ok (.iconst 1, 1) := by decide +kernel
theorem dX6_about_103 : decode cX6_about 103 = .ok (.if_icmp .ne 7, 3) := by decide +kernel
theorem dX6_about_106 : decode cX6_about 106 = .ok (.iconst 1, 1) := by decide +kernel
theorem dX6_about_107 : decode cX6_about 107 = .ok (.goto 4, 3) := by decide +kernel
theorem dX6_about_110 : decode cX6_about 110 = .ok (.iconst 0, 1) := by decide +kernel
theorem dX6_about_111 : decode cX6_about 111 = .ok (.iadd, 1) := by decide +kernel
theorem dX6_about_112 : decode cX6_about 112 = .ok (.istore_n 2, 1) := by decide +kernel
theorem dX6_about_113 : decode cX6_about 113 = .ok (.iinc 3 1, 3) := by decide +kernel
theorem dX6_about_116 : decode cX6_about 116 = .ok (.goto (-28), 3) := by decide +kernel
theorem dX6_about_119 : decode cX6_about 119 = .ok (.aload_n 0, 1) := by decide +kernel
theorem dX6_about_120 : decode cX6_about 120 = .ok (.iload_n 2, 1) := by decide +kernel
theorem dX6_about_121 : decode cX6_about 121 = .ok (.invokevirtual 270, 3) := by decide +kernel
theorem dX6_about_124 : decode cX6_about 124 = .ok (.ireturn, 1) := by decide +kernel
theorem dX6_about_125 : decode cX6_about 125 = .ok (.iconst 0, 1) := by decide +kernel
theorem dX6_about_126 : decode cX6_about 126 = .ok (.istore_n 3, 1) := by decide +kernel
theorem dX6_about_127 : decode cX6_about 127 = .ok (.iload_n 3, 1) := by decide +kernel
theorem dX6_about_128 : decode cX6_about 128 = .ok (.aload_n 0, 1) := by decide +kernel
theorem dX6_about_129 : decode cX6_about 129 = .ok (.getfield 255, 3) := by decide +kernel
theorem dX6_about_132 : decode cX6_about 132 = .ok (.if_icmp .ge 28, 3) := by decide +kernel
theorem dX6_about_135 : decode cX6_about 135 = .ok (.aload_n 0, 1) := by decide +kernel
theorem dX6_about_136 : decode cX6_about 136 = .ok (.iload_n 3, 1) := by decide +kernel
theorem dX6_about_137 : decode cX6_about 137 = .ok (.invokevirtual 288, 3) := by decide +kernel
theorem dX6_about_140 : decode cX6_about 140 = .ok (.iload_n 2, 1) := by decide +kernel
theorem dX6_about_141 : decode cX6_about 141 = .ok (.if_icmp .le 11, 3) := by decide +kernel
theorem dX6_about_144 : decode cX6_about 144 = .ok (.aload_n 0, 1) := by decide +kernel
theorem dX6_about_145 : decode cX6_about 145 = .ok (.iload_n 3, 1) := by decide +kernel
theorem dX6_about_146 : decode cX6_about 146 = .ok (.invokevirtual 288, 3) := by decide +kernel
theorem dX6_about_149 : decode cX6_about 149 = .ok (.goto 4, 3) := by decide +kernel
theorem dX6_about_152 : decode cX6_about 152 = .ok (.iload_n 2, 1) := by decide +kernel
theorem dX6_about_153 : decode cX6_about 153 = .ok (.istore_n 2, 1) := by decide +kernel
theorem dX6_about_154 : decode cX6_about 154 = .ok (.iinc 3 1, 3) := by decide +kernel
theorem dX6_about_157 : decode cX6_about 157 = .ok (.goto (-30), 3) := by decide +kernel
theorem dX6_about_160 : decode cX6_about 160 = .ok (.aload_n 0, 1) := by decide +kernel
theorem dX6_about_161 : decode cX6_about 161 = .ok (.iload_n 2, 1) := by decide +kernel
theorem dX6_about_162 : decode cX6_about 162 = .ok (.invokevirtual 270, 3) := by decide +kernel
theorem dX6_about_165 : decode cX6_about 165 = .ok (.ireturn, 1) := by decide +kernel
theorem dX6_about_166 : decode cX6_about 166 = .ok (.iconst 0, 1) := by decide +kernel
theorem dX6_about_167 : decode cX6_about 167 = .ok (.istore_n 3, 1) := by decide +kernel
theorem dX6_about_168 : decode cX6_about 168 = .ok (.iload_n 3, 1) := by decide +kernel
theorem dX6_about_169 : decode cX6_about 169 = .ok (.aload_n 0, 1) := by decide +kernel
theorem dX6_about_170 : decode cX6_about 170 = .ok (.getfield 255, 3) := by decide +kernel
theorem dX6_about_173 : decode cX6_about 173 = .ok (.if_icmp .ge 39, 3) := by decide +kernel
theorem dX6_about_176 : decode cX6_about 176 = .ok (.iconst 0, 1) := by decide +kernel
theorem dX6_about_177 : decode cX6_about 177 = .ok (.istore 4, 2) := by decide +kernel
theorem dX6_about_179 : decode cX6_about 179 = .ok (.iload 4, 2) := by decide +kernel
theorem dX6_about_181 : decode cX6_about 181 = .ok (.iload_n 3, 1) := by decide +kernel
theorem dX6_about_182 : decode cX6_about 182 = .ok (.if_icmp .ge 24, 3) := by decide +kernel
theorem dX6_about_185 : decode cX6_about 185 = .ok (.iload_n 2, 1) := by decide +kernel
theorem dX6_about_186 : decode cX6_about 186 = .ok (.i2l, 1) := by decide +kernel
theorem dX6_about_187 : decode cX6_about 187 = .ok (.aload_n 0, 1) := by decide +kernel
theorem dX6_about_188 : decode cX6_about 188 = .ok (.iload_n 3, 1) := by decide +kernel
theorem dX6_about_189 : decode cX6_about 189 = .ok (.iload 4, 2) := by decide +kernel
theorem dX6_about_191 : decode cX6_about 191 = .ok (.invokevirtual 285, 3) := by decide +kernel
theorem dX6_about_194 : decode cX6_about 194 = .ok (.i2l, 1) := by decide +kernel
theorem dX6_about_195 : decode cX6_about 195 = .ok (.invokestatic 202, 3) := by decide +kernel
theorem dX6_about_198 : decode cX6_about 198 = .ok (.l2i, 1) := by decide +kernel
theorem dX6_about_199 : decode cX6_about 199 = .ok (.istore_n 2, 1) := by decide +kernel
theorem dX6_about_200 : decode cX6_about 200 = .ok (.iinc 4 1, 3) := by decide +kernel
theorem dX6_about_203 : decode cX6_about 203 = .ok (.goto (-24), 3) := by decide +kernel
theorem dX6_about_206 : decode cX6_about 206 = .ok (.iinc 3 1, 3) := by decide +kernel
theorem dX6_about_209 : decode cX6_about 209 = .ok (.goto (-41), 3) := by decide +kernel
theorem dX6_about_212 : decode cX6_about 212 = .ok (.aload_n 0, 1) := by decide +kernel
theorem dX6_about_213 : decode cX6_about 213 = .ok (.iload_n 2, 1) := by decide +kernel
theorem dX6_about_214 : decode cX6_about 214 = .ok (.invokevirtual 270, 3) := by decide +kernel
theorem dX6_about_217 : decode cX6_about 217 = .ok (.ireturn, 1) := by decide +kernel
theorem dX6_about_218 : decode cX6_about 218 = .ok (.aload_n 0, 1) := by decide +kernel
theorem dX6_about_219 : decode cX6_about 219 = .ok (.aload_n 0, 1) := by decide +kernel
theorem dX6_about_220 : decode cX6_about 220 = .ok (.getfield 261, 3) := by decide +kernel
theorem dX6_about_223 : decode cX6_about 223 = .ok (.invokevirtual 270, 3) := by decide +kernel
theorem dX6_about_226 : decode cX6_about 226 = .ok (.ireturn, 1) := by decide +kernel
theorem dX6_about_227 : decode cX6_about 227 = .ok (.iconst 0, 1) := by decide +kernel
theorem dX6_about_228 : decode cX6_about 228 = .ok (.istore_n 3, 1) := by decide +kernel
theorem dX6_about_229 : decode cX6_about 229 = .ok (.iload_n 3, 1) := by decide +kernel
theorem dX6_about_230 : decode cX6_about 230 = .ok (.aload_n 0, 1) := by decide +kernel
theorem dX6_about_231 : decode cX6_about 231 = .ok (.getfield 255, 3) := by decide +kernel
theorem dX6_about_234 : decode cX6_about 234 = .ok (.if_icmp .ge 27, 3) := by decide +kernel
theorem dX6_about_237 : decode cX6_about 237 = .ok (.iload_n 2, 1) := by decide +kernel
theorem dX6_about_238 : decode cX6_about 238 = .ok (.aload_n 0, 1) := by decide +kernel
theorem dX6_about_239 : decode cX6_about 239 = .ok (.iload_n 3, 1) := by decide +kernel
theorem dX6_about_240 : decode cX6_about 240 = .ok (.invokevirtual 296, 3) := by decide +kernel
theorem dX6_about_243 : decode cX6_about 243 = .ok (.ifCond .eq 9, 3) := by decide +kernel
theorem dX6_about_246 : decode cX6_about 246 = .ok (.iconst 1, 1) := by decide +kernel
theorem dX6_about_247 : decode cX6_about 247 = .ok (.iload_n 3, 1) := by decide +kernel
theorem dX6_about_248 : decode cX6_about 248 = .ok (.ishl, 1) := by decide +kernel
theorem dX6_about_249 : decode cX6_about 249 = .ok (.goto 4, 3) := by decide +kernel
theorem dX6_about_252 : decode cX6_about 252 = .ok (.iconst 0, 1) := by decide +kernel
theorem dX6_about_253 : decode cX6_about 253 = .ok (.ior, 1) := by decide +kernel
theorem dX6_about_254 : decode cX6_about 254 = .ok (.istore_n 2, 1) := by decide +kernel
theorem dX6_about_255 : decode cX6_about 255 = .ok (.iinc 3 1, 3) := by decide +kernel
theorem dX6_about_258 : decode cX6_about 258 = .ok (.goto (-29), 3) := by decide +kernel
theorem dX6_about_261 : decode cX6_about 261 = .ok (.aload_n 0, 1) := by decide +kernel
theorem dX6_about_262 : decode cX6_about 262 = .ok (.iload_n 2, 1) := by decide +kernel
theorem dX6_about_263 : decode cX6_about 263 = .ok (.invokevirtual 270, 3) := by decide +kernel
theorem dX6_about_266 : decode cX6_about 266 = .ok (.ireturn, 1) := by decide +kernel
theorem dX6_about_267 : decode cX6_about 267 = .ok (.iconst 0, 1) := by decide +kernel
theorem dX6_about_268 : decode cX6_about 268 = .ok (.istore_n 3, 1) := by decide +kernel
theorem dX6_about_269 : decode cX6_about 269 = .ok (.iload_n 3, 1) := by decide +kernel
theorem dX6_about_270 : decode cX6_about 270 = .ok (.aload_n 0, 1) := by decide +kernel
theorem dX6_about_271 : decode cX6_about 271 = .ok (.getfield 255, 3) := by decide +kernel
theorem dX6_about_274 : decode cX6_about 274 = .ok (.if_icmp .ge 27, 3) := by decide +kernel
theorem dX6_about_277 : decode cX6_about 277 = .ok (.iload_n 2, 1) := by decide +kernel
theorem dX6_about_278 : decode cX6_about 278 = .ok (.aload_n 0, 1) := by decide +kernel
theorem dX6_about_279 : decode cX6_about 279 = .ok (.iload_n 3, 1) := by decide +kernel
theorem dX6_about_280 : decode cX6_about 280 = .ok (.invokevirtual 299, 3) := by decide +kernel
theorem dX6_about_283 : decode cX6_about 283 = .ok (.ifCond .eq 9, 3) := by decide +kernel
theorem dX6_about_286 : decode cX6_about 286 = .ok (.iconst 1, 1) := by decide +kernel
theorem dX6_about_287 : decode cX6_about 287 = .ok (.iload_n 3, 1) := by decide +kernel
theorem dX6_about_288 : decode cX6_about 288 = .ok (.ishl, 1) := by decide +kernel
theorem dX6_about_289 : decode cX6_about 289 = .ok (.goto 4, 3) := by decide +kernel
theorem dX6_about_292 : decode cX6_about 292 = .ok (.iconst 0, 1) := by decide +kernel
theorem dX6_about_293 : decode cX6_about 293 = .ok (.ior, 1) := by decide +kernel
theorem dX6_about_294 : decode cX6_about 294 = .ok (.istore_n 2, 1) := by decide +kernel
theorem dX6_about_295 : decode cX6_about 295 = .ok (.iinc 3 1, 3) := by decide +kernel
theorem dX6_about_298 : decode cX6_about 298 = .ok (.goto (-29), 3) := by decide +kernel
theorem dX6_about_301 : decode cX6_about 301 = .ok (.aload_n 0, 1) := by decide +kernel
theorem dX6_about_302 : decode cX6_about 302 = .ok (.iload_n 2, 1) := by decide +kernel
theorem dX6_about_303 : decode cX6_about 303 = .ok (.invokevirtual 270, 3) := by decide +kernel
theorem dX6_about_306 : decode cX6_about 306 = .ok (.ireturn, 1) := by decide +kernel
theorem dX6_about_307 : decode cX6_about 307 = .ok (.aload_n 0, 1) := by decide +kernel
theorem dX6_about_308 : decode cX6_about 308 = .ok (.iconst 1, 1) := by decide +kernel
theorem dX6_about_309 : decode cX6_about 309 = .ok (.invokevirtual 267, 3) := by decide +kernel
theorem dX6_about_312 : decode cX6_about 312 = .ok (.ireturn, 1) := by decide +kernel
theorem dX6_measure_0 : decode cX6_measure 0 = .ok (.aload_n 0, 1) := by decide +kernel
theorem dX6_measure_1 : decode cX6_measure 1 = .ok (.iconst 0, 1) := by decide +kernel
theorem dX6_measure_2 : decode cX6_measure 2 = .ok (.putfield 77, 3) := by decide +kernel
theorem dX6_measure_5 : decode cX6_measure 5 = .ok (.aload_n 0, 1) := by decide +kernel
theorem dX6_measure_6 : decode cX6_measure 6 = .ok (.getfield 264, 3) := by decide +kernel
theorem dX6_measure_9 : decode cX6_measure 9 = .ok (.ifCond .ne 9, 3) := by decide +kernel
theorem dX6_measure_12 : decode cX6_measure 12 = .ok (.aload_n 0, 1) := by decide +kernel
theorem dX6_measure_13 : decode cX6_measure 13 = .ok (.iconst 1, 1) := by decide +kernel
theorem dX6_measure_14 : decode cX6_measure 14 = .ok (.invokevirtual 267, 3) := by decide +kernel
theorem dX6_measure_17 : decode cX6_measure 17 = .ok (.ireturn, 1) := by decide +kernel
theorem dX6_measure_18 : decode cX6_measure 18 = .ok (.aload_n 0, 1) := by decide +kernel
theorem dX6_measure_19 : decode cX6_measure 19 = .ok (.invokevirtual 302, 3) := by decide +kernel
theorem dX6_measure_22 : decode cX6_measure 22 = .ok (.lstore_n 1, 1) := by decide +kernel
theorem dX6_measure_23 : decode cX6_measure 23 = .ok (.lload_n 1, 1) := by decide +kernel
theorem dX6_measure_24 : decode cX6_measure 24 = .ok (.lconst 0, 1) := by decide +kernel
theorem dX6_measure_25 : decode cX6_measure 25 = .ok (.lcmp, 1) := by decide +kernel
theorem dX6_measure_26 : decode cX6_measure 26 = .ok (.ifCond .ne 11, 3) := by decide +kernel
theorem dX6_measure_29 : decode cX6_measure 29 = .ok (.aload_n 0, 1) := by decide +kernel
theorem dX6_measure_30 : decode cX6_measure 30 = .ok (.iconst 3, 1) := by decide +kernel
theorem dX6_measure_31 : decode cX6_measure 31 = .ok (.invokevirtual 267, 3) := by decide +kernel
theorem dX6_measure_34 : decode cX6_measure 34 = .ok (.goto 9, 3) := by decide +kernel
theorem dX6_measure_37 : decode cX6_measure 37 = .ok (.aload_n 0, 1) := by decide +kernel
theorem dX6_measure_38 : decode cX6_measure 38 = .ok (.lload_n 1, 1) := by decide +kernel
theorem dX6_measure_39 : decode cX6_measure 39 = .ok (.l2i, 1) := by decide +kernel
theorem dX6_measure_40 : decode cX6_measure 40 = .ok (.invokevirtual 270, 3) := by decide +kernel
theorem dX6_measure_43 : decode cX6_measure 43 = .ok (.ireturn, 1) := by decide +kernel
theorem dX6_kind_0 : decode cX6_kind 0 = .ok (.aload_n 0, 1) := by decide +kernel
theorem dX6_kind_1 : decode cX6_kind 1 = .ok (.iload_n 1, 1) := by decide +kernel
theorem dX6_kind_2 : decode cX6_kind 2 = .ok (.invokevirtual 288, 3) := by decide +kernel
theorem dX6_kind_5 : decode cX6_kind 5 = .ok (.istore_n 2, 1) := by decide +kernel
theorem dX6_kind_6 : decode cX6_kind 6 = .ok (.aload_n 0, 1) := by decide +kernel
theorem dX6_kind_7 : decode cX6_kind 7 = .ok (.iload_n 1, 1) := by decide +kernel
theorem dX6_kind_8 : decode cX6_kind 8 = .ok (.invokevirtual 282, 3) := by decide +kernel
theorem dX6_kind_11 : decode cX6_kind 11 = .ok (.istore_n 3, 1) := by decide +kernel
theorem dX6_kind_12 : decode cX6_kind 12 = .ok (.iconst 0, 1) := by decide +kernel
theorem dX6_kind_13 : decode cX6_kind 13 = .ok (.istore 4, 2) := by decide +kernel
theorem dX6_kind_15 : decode cX6_kind 15 = .ok (.iload 4, 2) := by decide +kernel
theorem dX6_kind_17 : decode cX6_kind 17 = .ok (.aload_n 0, 1) := by decide +kernel
theorem dX6_kind_18 : decode cX6_kind 18 = .ok (.getfield 41, 3) := by decide +kernel
theorem dX6_kind_21 : decode cX6_kind 21 = .ok (.iload_n 1, 1) := by decide +kernel
theorem dX6_kind_22 : decode cX6_kind 22 = .ok (.iaload, 1) := by decide +kernel
theorem dX6_kind_23 : decode cX6_kind 23 = .ok (.imul, 1) := by decide +kernel
theorem dX6_kind_24 : decode cX6_kind 24 = .ok (.aload_n 0, 1) := by decide +kernel
theorem dX6_kind_25 : decode cX6_kind 25 = .ok (.getfield 41, 3) := by decide +kernel
theorem dX6_kind_28 : decode cX6_kind 28 = .ok (.iload_n 3, 1) := by decide +kernel
theorem dX6_kind_29 : decode cX6_kind 29 = .ok (.iaload, 1) := by decide +kernel
theorem dX6_kind_30 : decode cX6_kind 30 = .ok (.iadd, 1) := by decide +kernel
theorem dX6_kind_31 : decode cX6_kind 31 = .ok (.iload_n 2, 1) := by decide +kernel
theorem dX6_kind_32 : decode cX6_kind 32 = .ok (.irem, 1) := by decide +kernel
theorem dX6_kind_33 : decode cX6_kind 33 = .ok (.ifCond .ne 24, 3) := by decide +kernel
theorem dX6_kind_36 : decode cX6_kind 36 = .ok (.iload 4, 2) := by decide +kernel
theorem dX6_kind_38 : decode cX6_kind 38 = .ok (.aload_n 0, 1) := by decide +kernel
theorem dX6_kind_39 : decode cX6_kind 39 = .ok (.getfield 44, 3) := by decide +kernel
theorem dX6_kind_42 : decode cX6_kind 42 = .ok (.iload_n 1, 1) := by decide +kernel
theorem dX6_kind_43 : decode cX6_kind 43 = .ok (.iaload, 1) := by decide +kernel
theorem dX6_kind_44 : decode cX6_kind 44 = .ok (.imul, 1) := by decide +kernel
theorem dX6_kind_45 : decode cX6_kind 45 = .ok (.aload_n 0, 1) := by decide +kernel
theorem dX6_kind_46 : decode cX6_kind 46 = .ok (.getfield 44, 3) := by decide +kernel
theorem dX6_kind_49 : decode cX6_kind 49 = .ok (.iload_n 3, 1) := by decide +kernel
theorem dX6_kind_50 : decode cX6_kind 50 = .ok (.iaload, 1) := by decide +kernel
theorem dX6_kind_51 : decode cX6_kind 51 = .ok (.iadd, 1) := by decide +kernel
theorem dX6_kind_52 : decode cX6_kind 52 = .ok (.iload_n 2, 1) := by decide +kernel
theorem dX6_kind_53 : decode cX6_kind 53 = .ok (.irem, 1) := by decide +kernel
theorem dX6_kind_54 : decode cX6_kind 54 = .ok (.ifCond .eq 9, 3) := by decide +kernel
theorem dX6_kind_57 : decode cX6_kind 57 = .ok (.iinc 4 1, 3) := by decide +kernel
theorem dX6_kind_60 : decode cX6_kind 60 = .ok (.goto (-45), 3) := by decide +kernel
theorem dX6_kind_63 : decode cX6_kind 63 = .ok (.iload 4, 2) := by decide +kernel
theorem dX6_kind_65 : decode cX6_kind 65 = .ok (.ireturn, 1) := by decide +kernel
theorem dX6_chainOf_0 : decode cX6_chainOf 0 = .ok (.aload_n 0, 1) := by decide +kernel
theorem dX6_chainOf_1 : decode cX6_chainOf 1 = .ok (.iload_n 1, 1) := by decide +kernel
theorem dX6_chainOf_2 : decode cX6_chainOf 2 = .ok (.invokevirtual 288, 3) := by decide +kernel
theorem dX6_chainOf_5 : decode cX6_chainOf 5 = .ok (.istore_n 3, 1) := by decide +kernel
theorem dX6_chainOf_6 : decode cX6_chainOf 6 = .ok (.aload_n 0, 1) := by decide +kernel
theorem dX6_chainOf_7 : decode cX6_chainOf 7 = .ok (.iload_n 1, 1) := by decide +kernel
theorem dX6_chainOf_8 : decode cX6_chainOf 8 = .ok (.invokevirtual 305, 3) := by decide +kernel
theorem dX6_chainOf_11 : decode cX6_chainOf 11 = .ok (.istore 4, 2) := by decide +kernel
theorem dX6_chainOf_13 : decode cX6_chainOf 13 = .ok (.iconst 0, 1) := by decide +kernel
theorem dX6_chainOf_14 : decode cX6_chainOf 14 = .ok (.istore 5, 2) := by decide +kernel
theorem dX6_chainOf_16 : decode cX6_chainOf 16 = .ok (.iload_n 3, 1) := by decide +kernel
theorem dX6_chainOf_17 : decode cX6_chainOf 17 = .ok (.iconst 1, 1) := by decide +kernel
theorem dX6_chainOf_18 : decode cX6_chainOf 18 = .ok (.if_icmp .le 58, 3) := by decide +kernel
theorem dX6_chainOf_21 : decode cX6_chainOf 21 = .ok (.iload 4, 2) := by decide +kernel
theorem dX6_chainOf_23 : decode cX6_chainOf 23 = .ok (.ifCond .le 53, 3) := by decide +kernel
theorem dX6_chainOf_26 : decode cX6_chainOf 26 = .ok (.iload_n 3, 1) := by decide +kernel
theorem dX6_chainOf_27 : decode cX6_chainOf 27 = .ok (.iload 4, 2) := by decide +kernel
theorem dX6_chainOf_29 : decode cX6_chainOf 29 = .ok (.iadd, 1) := by decide +kernel
theorem dX6_chainOf_30 : decode cX6_chainOf 30 = .ok (.iconst 1, 1) := by decide +kernel
theorem dX6_chainOf_31 : decode cX6_chainOf 31 = .ok (.isub, 1) := by decide +kernel
theorem dX6_chainOf_32 : decode cX6_chainOf 32 = .ok (.iload 4, 2) := by decide +kernel
theorem dX6_chainOf_34 : decode cX6_chainOf 34 = .ok (.idiv, 1) := by decide +kernel
theorem dX6_chainOf_35 : decode cX6_chainOf 35 = .ok (.istore 6, 2) := by decide +kernel
theorem dX6_chainOf_37 : decode cX6_chainOf 37 = .ok (.iload 5, 2) := by decide +kernel
theorem dX6_chainOf_39 : decode cX6_chainOf 39 = .ok (.iload_n 2, 1) := by decide +kernel
theorem dX6_chainOf_40 : decode cX6_chainOf 40 = .ok (.if_icmp .ne 6, 3) := by decide +kernel
theorem dX6_chainOf_43 : decode cX6_chainOf 43 = .ok (.iload 6, 2) := by decide +kernel
theorem dX6_chainOf_45 : decode cX6_chainOf 45 = .ok (.ireturn, 1) := by decide +kernel
theorem dX6_chainOf_46 : decode cX6_chainOf 46 = .ok (.iload 6, 2) := by decide +kernel
theorem dX6_chainOf_48 : decode cX6_chainOf 48 = .ok (.iload 4, 2) := by decide +kernel
theorem dX6_chainOf_50 : decode cX6_chainOf 50 = .ok (.imul, 1) := by decide +kernel
theorem dX6_chainOf_51 : decode cX6_chainOf 51 = .ok (.iload_n 3, 1) := by decide +kernel
theorem dX6_chainOf_52 : decode cX6_chainOf 52 = .ok (.isub, 1) := by decide +kernel
theorem dX6_chainOf_53 : decode cX6_chainOf 53 = .ok (.istore 7, 2) := by decide +kernel
theorem dX6_chainOf_55 : decode cX6_chainOf 55 = .ok (.iload 4, 2) := by decide +kernel
theorem dX6_chainOf_57 : decode cX6_chainOf 57 = .ok (.istore_n 3, 1) := by decide +kernel
theorem dX6_chainOf_58 : decode cX6_chainOf 58 = .ok (.iload 7, 2) := by decide +kernel
theorem dX6_chainOf_60 : decode cX6_chainOf 60 = .ok (.istore 4, 2) := by decide +kernel
theorem dX6_chainOf_62 : decode cX6_chainOf 62 = .ok (.iinc 5 1, 3) := by decide +kernel
theorem dX6_chainOf_65 : decode cX6_chainOf 65 = .ok (.iload 4, 2) := by decide +kernel
theorem dX6_chainOf_67 : decode cX6_chainOf 67 = .ok (.ifCond .ne 6, 3) := by decide +kernel
theorem dX6_chainOf_70 : decode cX6_chainOf 70 = .ok (.goto 6, 3) := by decide +kernel
theorem dX6_chainOf_73 : decode cX6_chainOf 73 = .ok (.goto (-57), 3) := by decide +kernel
theorem dX6_chainOf_76 : decode cX6_chainOf 76 = .ok (.iload_n 2, 1) := by decide +kernel
theorem dX6_chainOf_77 : decode cX6_chainOf 77 = .ok (.iconst (-1), 1) := by decide +kernel
theorem dX6_chainOf_78 : decode cX6_chainOf 78 = .ok (.if_icmp .ne 8, 3) := by decide +kernel
theorem dX6_chainOf_81 : decode cX6_chainOf 81 = .ok (.iload 5, 2) := by decide +kernel
theorem dX6_chainOf_83 : decode cX6_chainOf 83 = .ok (.goto 5, 3) := by decide +kernel
theorem dX6_chainOf_86 : decode cX6_chainOf 86 = .ok (.bipush (-2), 2) := by decide +kernel
theorem dX6_chainOf_88 : decode cX6_chainOf 88 = .ok (.ireturn, 1) := by decide +kernel
theorem dX6_ray_0 : decode cX6_ray 0 = .ok (.aload_n 0, 1) := by decide +kernel
theorem dX6_ray_1 : decode cX6_ray 1 = .ok (.iconst 0, 1) := by decide +kernel
theorem dX6_ray_2 : decode cX6_ray 2 = .ok (.putfield 77, 3) := by decide +kernel
theorem dX6_ray_5 : decode cX6_ray 5 = .ok (.aload_n 0, 1) := by decide +kernel
theorem dX6_ray_6 : decode cX6_ray 6 = .ok (.iload_n 1, 1) := by decide +kernel
theorem dX6_ray_7 : decode cX6_ray 7 = .ok (.invokevirtual 308, 3) := by decide +kernel
theorem dX6_ray_10 : decode cX6_ray 10 = .ok (.ifCond .ne 9, 3) := by decide +kernel
theorem dX6_ray_13 : decode cX6_ray 13 = .ok (.aload_n 0, 1) := by decide +kernel
theorem dX6_ray_14 : decode cX6_ray 14 = .ok (.iconst 1, 1) := by decide +kernel
theorem dX6_ray_15 : decode cX6_ray 15 = .ok (.invokevirtual 311, 3) := by decide +kernel
theorem dX6_ray_18 : decode cX6_ray 18 = .ok (.lreturn, 1) := by decide +kernel
theorem dX6_ray_19 : decode cX6_ray 19 = .ok (.iload_n 2, 1) := by decide +kernel
theorem dX6_ray_20 : decode cX6_ray 20 = .ok (.tableswitch 94 0 4 #[36, 48, 60, 71, 82], 36) := by decide +kernel
theorem dX6_ray_56 : decode cX6_ray 56 = .ok (.aload_n 0, 1) := by decide +kernel
theorem dX6_ray_57 : decode cX6_ray 57 = .ok (.aload_n 0, 1) := by decide +kernel
theorem dX6_ray_58 : decode cX6_ray 58 = .ok (.getfield 41, 3) := by decide +kernel
theorem dX6_ray_61 : decode cX6_ray 61 = .ok (.iload_n 1, 1) := by decide +kernel
theorem dX6_ray_62 : decode cX6_ray 62 = .ok (.iaload, 1) := by decide +kernel
theorem dX6_ray_63 : decode cX6_ray 63 = .ok (.i2l, 1) := by decide +kernel
theorem dX6_ray_64 : decode cX6_ray 64 = .ok (.invokevirtual 315, 3) := by decide +kernel
theorem dX6_ray_67 : decode cX6_ray 67 = .ok (.lreturn, 1) := by decide +kernel
theorem dX6_ray_68 : decode cX6_ray 68 = .ok (.aload_n 0, 1) := by decide +kernel
theorem dX6_ray_69 : decode cX6_ray 69 = .ok (.aload_n 0, 1) := by decide +kernel
theorem dX6_ray_70 : decode cX6_ray 70 = .ok (.getfield 44, 3) := by decide +kernel
theorem dX6_ray_73 : decode cX6_ray 73 = .ok (.iload_n 1, 1) := by decide +kernel
theorem dX6_ray_74 : decode cX6_ray 74 = .ok (.iaload, 1) := by decide +kernel
theorem dX6_ray_75 : decode cX6_ray 75 = .ok (.i2l, 1) := by decide +kernel
theorem dX6_ray_76 : decode cX6_ray 76 = .ok (.invokevirtual 315, 3) := by decide +kernel
theorem dX6_ray_79 : decode cX6_ray 79 = .ok (.lreturn, 1) := by decide +kernel
theorem dX6_ray_80 : decode cX6_ray 80 = .ok (.aload_n 0, 1) := by decide +kernel
theorem dX6_ray_81 : decode cX6_ray 81 = .ok (.aload_n 0, 1) := by decide +kernel
theorem dX6_ray_82 : decode cX6_ray 82 = .ok (.iload_n 1, 1) := by decide +kernel
theorem dX6_ray_83 : decode cX6_ray 83 = .ok (.invokevirtual 288, 3) := by decide +kernel
theorem dX6_ray_86 : decode cX6_ray 86 = .ok (.i2l, 1) := by decide +kernel
theorem dX6_ray_87 : decode cX6_ray 87 = .ok (.invokevirtual 315, 3) := by decide +kernel
theorem dX6_ray_90 : decode cX6_ray 90 = .ok (.lreturn, 1) := by decide +kernel
theorem dX6_ray_91 : decode cX6_ray 91 = .ok (.aload_n 0, 1) := by decide +kernel
theorem dX6_ray_92 : decode cX6_ray 92 = .ok (.aload_n 0, 1) := by decide +kernel
theorem dX6_ray_93 : decode cX6_ray 93 = .ok (.iload_n 1, 1) := by decide +kernel
theorem dX6_ray_94 : decode cX6_ray 94 = .ok (.invokevirtual 305, 3) := by decide +kernel
theorem dX6_ray_97 : decode cX6_ray 97 = .ok (.i2l, 1) := by decide +kernel
theorem dX6_ray_98 : decode cX6_ray 98 = .ok (.invokevirtual 315, 3) := by decide +kernel
theorem dX6_ray_101 : decode cX6_ray 101 = .ok (.lreturn, 1) := by decide +kernel
theorem dX6_ray_102 : decode cX6_ray 102 = .ok (.aload_n 0, 1) := by decide +kernel
theorem dX6_ray_103 : decode cX6_ray 103 = .ok (.aload_n 0, 1) := by decide +kernel
theorem dX6_ray_104 : decode cX6_ray 104 = .ok (.iload_n 1, 1) := by decide +kernel
theorem dX6_ray_105 : decode cX6_ray 105 = .ok (.iconst (-1), 1) := by decide +kernel
theorem dX6_ray_106 : decode cX6_ray 106 = .ok (.invokevirtual 319, 3) := by decide +kernel
theorem dX6_ray_109 : decode cX6_ray 109 = .ok (.i2l, 1) := by decide +kernel
theorem dX6_ray_110 : decode cX6_ray 110 = .ok (.invokevirtual 315, 3) := by decide +kernel
theorem dX6_ray_113 : decode cX6_ray 113 = .ok (.lreturn, 1) := by decide +kernel
theorem dX6_ray_114 : decode cX6_ray 114 = .ok (.aload_n 0, 1) := by decide +kernel
theorem dX6_ray_115 : decode cX6_ray 115 = .ok (.iconst 1, 1) := by decide +kernel
theorem dX6_ray_116 : decode cX6_ray 116 = .ok (.invokevirtual 311, 3) := by decide +kernel
theorem dX6_ray_119 : decode cX6_ray 119 = .ok (.lreturn, 1) := by decide +kernel
theorem dX6_chain_0 : decode cX6_chain 0 = .ok (.aload_n 0, 1) := by decide +kernel
theorem dX6_chain_1 : decode cX6_chain 1 = .ok (.iconst 0, 1) := by decide +kernel
theorem dX6_chain_2 : decode cX6_chain 2 = .ok (.putfield 77, 3) := by decide +kernel
theorem dX6_chain_5 : decode cX6_chain 5 = .ok (.aload_n 0, 1) := by decide +kernel
theorem dX6_chain_6 : decode cX6_chain 6 = .ok (.iload_n 1, 1) := by decide +kernel
theorem dX6_chain_7 : decode cX6_chain 7 = .ok (.invokevirtual 308, 3) := by decide +kernel
theorem dX6_chain_10 : decode cX6_chain 10 = .ok (.ifCond .eq 20, 3) := by decide +kernel
theorem dX6_chain_13 : decode cX6_chain 13 = .ok (.iload_n 2, 1) := by decide +kernel
theorem dX6_chain_14 : decode cX6_chain 14 = .ok (.ifCond .lt 16, 3) := by decide +kernel
theorem dX6_chain_17 : decode cX6_chain 17 = .ok (.aload_n 0, 1) := by decide +kernel
theorem dX6_chain_18 : decode cX6_chain 18 = .ok (.aload_n 0, 1) := by decide +kernel
theorem dX6_chain_19 : decode cX6_chain 19 = .ok (.iload_n 1, 1) := by decide +kernel
theorem dX6_chain_20 : decode cX6_chain 20 = .ok (.iload_n 2, 1) := by decide +kernel
theorem dX6_chain_21 : decode cX6_chain 21 = .ok (.invokevirtual 319, 3) := by decide +kernel
theorem dX6_chain_24 : decode cX6_chain 24 = .ok (.invokevirtual 270, 3) := by decide +kernel
theorem dX6_chain_27 : decode cX6_chain 27 = .ok (.goto 8, 3) := by decide +kernel
theorem dX6_chain_30 : decode cX6_chain 30 = .ok (.aload_n 0, 1) := by decide +kernel
theorem dX6_chain_31 : decode cX6_chain 31 = .ok (.iconst 1, 1) := by decide +kernel
theorem dX6_chain_32 : decode cX6_chain 32 = .ok (.invokevirtual 267, 3) := by decide +kernel
theorem dX6_chain_35 : decode cX6_chain 35 = .ok (.ireturn, 1) := by decide +kernel
theorem dX6_coneOf_0 : decode cX6_coneOf 0 = .ok (.iconst 0, 1) := by decide +kernel
theorem dX6_coneOf_1 : decode cX6_coneOf 1 = .ok (.istore_n 3, 1) := by decide +kernel
theorem dX6_coneOf_2 : decode cX6_coneOf 2 = .ok (.aload_n 0, 1) := by decide +kernel
theorem dX6_coneOf_3 : decode cX6_coneOf 3 = .ok (.getfield 41, 3) := by decide +kernel
theorem dX6_coneOf_6 : decode cX6_coneOf 6 = .ok (.iload_n 3, 1) := by decide +kernel
theorem dX6_coneOf_7 : decode cX6_coneOf 7 = .ok (.iaload, 1) := by decide +kernel
theorem dX6_coneOf_8 : decode cX6_coneOf 8 = .ok (.aload_n 0, 1) := by decide +kernel
theorem dX6_coneOf_9 : decode cX6_coneOf 9 = .ok (.getfield 44, 3) := by decide +kernel
theorem dX6_coneOf_12 : decode cX6_coneOf 12 = .ok (.iload_n 3, 1) := by decide +kernel
theorem dX6_coneOf_13 : decode cX6_coneOf 13 = .ok (.iaload, 1) := by decide +kernel
theorem dX6_coneOf_14 : decode cX6_coneOf 14 = .ok (.iload_n 1, 1) := by decide +kernel
theorem dX6_coneOf_15 : decode cX6_coneOf 15 = .ok (.iload_n 2, 1) := by decide +kernel
theorem dX6_coneOf_16 : decode cX6_coneOf 16 = .ok (.invokestatic 227, 3) := by decide +kernel
theorem dX6_coneOf_19 : decode cX6_coneOf 19 = .ok (.ifCond .lt 31, 3) := by decide +kernel
theorem dX6_coneOf_22 : decode cX6_coneOf 22 = .ok (.iload_n 1, 1) := by decide +kernel
theorem dX6_coneOf_23 : decode cX6_coneOf 23 = .ok (.iload_n 2, 1) := by decide +kernel
theorem dX6_coneOf_24 : decode cX6_coneOf 24 = .ok (.aload_n 0, 1) := by decide +kernel
theorem dX6_coneOf_25 : decode cX6_coneOf 25 = .ok (.getfield 41, 3) := by decide +kernel
theorem dX6_coneOf_28 : decode cX6_coneOf 28 = .ok (.aload_n 0, 1) := by decide +kernel
theorem dX6_coneOf_29 : decode cX6_coneOf 29 = .ok (.iload_n 3, 1) := by decide +kernel
theorem dX6_coneOf_30 : decode cX6_coneOf 30 = .ok (.invokevirtual 282, 3) := by decide +kernel
theorem dX6_coneOf_33 : decode cX6_coneOf 33 = .ok (.iaload, 1) := by decide +kernel
theorem dX6_coneOf_34 : decode cX6_coneOf 34 = .ok (.aload_n 0, 1) := by decide +kernel
theorem dX6_coneOf_35 : decode cX6_coneOf 35 = .ok (.getfield 44, 3) := by decide +kernel
theorem dX6_coneOf_38 : decode cX6_coneOf 38 = .ok (.aload_n 0, 1) := by decide +kernel
theorem dX6_coneOf_39 : decode cX6_coneOf 39 = .ok (.iload_n 3, 1) := by decide +kernel
theorem dX6_coneOf_40 : decode cX6_coneOf 40 = .ok (.invokevirtual 282, 3) := by decide +kernel
theorem dX6_coneOf_43 : decode cX6_coneOf 43 = .ok (.iaload, 1) := by decide +kernel
theorem dX6_coneOf_44 : decode cX6_coneOf 44 = .ok (.invokestatic 227, 3) := by decide +kernel
theorem dX6_coneOf_47 : decode cX6_coneOf 47 = .ok (.ifCond .gt 9, 3) := by decide +kernel
theorem dX6_coneOf_50 : decode cX6_coneOf 50 = .ok (.iinc 3 1, 3) := by decide +kernel
theorem dX6_coneOf_53 : decode cX6_coneOf 53 = .ok (.goto (-51), 3) := by decide +kernel
theorem dX6_coneOf_56 : decode cX6_coneOf 56 = .ok (.iload_n 3, 1) := by decide +kernel
theorem dX6_coneOf_57 : decode cX6_coneOf 57 = .ok (.ireturn, 1) := by decide +kernel
theorem dX6_isNear_0 : decode cX6_isNear 0 = .ok (.iload_n 0, 1) := by decide +kernel
theorem dX6_isNear_1 : decode cX6_isNear 1 = .ok (.i2l, 1) := by decide +kernel
theorem dX6_isNear_2 : decode cX6_isNear 2 = .ok (.ldc2_w 235, 3) := by decide +kernel
theorem dX6_isNear_5 : decode cX6_isNear 5 = .ok (.ldc2_w 237, 3) := by decide +kernel
theorem dX6_isNear_8 : decode cX6_isNear 8 = .ok (.invokestatic 108, 3) := by decide +kernel
theorem dX6_isNear_11 : decode cX6_isNear 11 = .ok (.ifCond .eq 21, 3) := by decide +kernel
theorem dX6_isNear_14 : decode cX6_isNear 14 = .ok (.iload_n 1, 1) := by decide +kernel
theorem dX6_isNear_15 : decode cX6_isNear 15 = .ok (.i2l, 1) := by decide +kernel
theorem dX6_isNear_16 : decode cX6_isNear 16 = .ok (.ldc2_w 235, 3) := by decide +kernel
theorem dX6_isNear_19 : decode cX6_isNear 19 = .ok (.ldc2_w 237, 3) := by decide +kernel
theorem dX6_isNear_22 : decode cX6_isNear 22 = .ok (.invokestatic 108, 3) := by decide +kernel
theorem dX6_isNear_25 : decode cX6_isNear 25 = .ok (.ifCond .eq 7, 3) := by decide +kernel
theorem dX6_isNear_28 : decode cX6_isNear 28 = .ok (.iconst 1, 1) := by decide +kernel
theorem dX6_isNear_29 : decode cX6_isNear 29 = .ok (.goto 4, 3) := by decide +kernel
theorem dX6_isNear_32 : decode cX6_isNear 32 = .ok (.iconst 0, 1) := by decide +kernel
theorem dX6_isNear_33 : decode cX6_isNear 33 = .ok (.ireturn, 1) := by decide +kernel
theorem dX6_cone_0 : decode cX6_cone 0 = .ok (.aload_n 0, 1) := by decide +kernel
theorem dX6_cone_1 : decode cX6_cone 1 = .ok (.iconst 0, 1) := by decide +kernel
theorem dX6_cone_2 : decode cX6_cone 2 = .ok (.putfield 77, 3) := by decide +kernel
theorem dX6_cone_5 : decode cX6_cone 5 = .ok (.aload_n 0, 1) := by decide +kernel
theorem dX6_cone_6 : decode cX6_cone 6 = .ok (.getfield 264, 3) := by decide +kernel
theorem dX6_cone_9 : decode cX6_cone 9 = .ok (.ifCond .ne 9, 3) := by decide +kernel
theorem dX6_cone_12 : decode cX6_cone 12 = .ok (.aload_n 0, 1) := by decide +kernel
theorem dX6_cone_13 : decode cX6_cone 13 = .ok (.iconst 1, 1) := by decide +kernel
theorem dX6_cone_14 : decode cX6_cone 14 = .ok (.invokevirtual 267, 3) := by decide +kernel
theorem dX6_cone_17 : decode cX6_cone 17 = .ok (.ireturn, 1) := by decide +kernel
theorem dX6_cone_18 : decode cX6_cone 18 = .ok (.iload_n 1, 1) := by decide +kernel
theorem dX6_cone_19 : decode cX6_cone 19 = .ok (.iload_n 2, 1) := by decide +kernel
theorem dX6_cone_20 : decode cX6_cone 20 = .ok (.invokestatic 322, 3) := by decide +kernel
theorem dX6_cone_23 : decode cX6_cone 23 = .ok (.ifCond .eq 24, 3) := by decide +kernel
theorem dX6_cone_26 : decode cX6_cone 26 = .ok (.iload_n 1, 1) := by decide +kernel
theorem dX6_cone_27 : decode cX6_cone 27 = .ok (.ifCond .ne 7, 3) := by decide +kernel
theorem dX6_cone_30 : decode cX6_cone 30 = .ok (.iload_n 2, 1) := by decide +kernel
theorem dX6_cone_31 : decode cX6_cone 31 = .ok (.ifCond .eq 16, 3) := by decide +kernel
theorem dX6_cone_34 : decode cX6_cone 34 = .ok (.aload_n 0, 1) := by decide +kernel
theorem dX6_cone_35 : decode cX6_cone 35 = .ok (.aload_n 0, 1) := by decide +kernel
theorem dX6_cone_36 : decode cX6_cone 36 = .ok (.iload_n 1, 1) := by decide +kernel
theorem dX6_cone_37 : decode cX6_cone 37 = .ok (.iload_n 2, 1) := by decide +kernel
theorem dX6_cone_38 : decode cX6_cone 38 = .ok (.invokevirtual 325, 3) := by decide +kernel
theorem dX6_cone_41 : decode cX6_cone 41 = .ok (.invokevirtual 270, 3) := by decide +kernel
theorem dX6_cone_44 : decode cX6_cone 44 = .ok (.goto 8, 3) := by decide +kernel
theorem dX6_cone_47 : decode cX6_cone 47 = .ok (.aload_n 0, 1) := by decide +kernel
theorem dX6_cone_48 : decode cX6_cone 48 = .ok (.iconst 2, 1) := by decide +kernel
theorem dX6_cone_49 : decode cX6_cone 49 = .ok (.invokevirtual 267, 3) := by decide +kernel
theorem dX6_cone_52 : decode cX6_cone 52 = .ok (.ireturn, 1) := by decide +kernel
theorem dX6_numberOf_0 : decode cX6_numberOf 0 = .ok (.aload_n 0, 1) := by decide +kernel
theorem dX6_numberOf_1 : decode cX6_numberOf 1 = .ok (.getfield 47, 3) := by decide +kernel
theorem dX6_numberOf_4 : decode cX6_numberOf 4 = .ok (.bipush 25, 2) := by decide +kernel
theorem dX6_numberOf_6 : decode cX6_numberOf 6 = .ok (.iload_n 1, 1) := by decide +kernel
theorem dX6_numberOf_7 : decode cX6_numberOf 7 = .ok (.imul, 1) := by decide +kernel
theorem dX6_numberOf_8 : decode cX6_numberOf 8 = .ok (.iload_n 2, 1) := by decide +kernel
theorem dX6_numberOf_9 : decode cX6_numberOf 9 = .ok (.iadd, 1) := by decide +kernel
theorem dX6_numberOf_10 : decode cX6_numberOf 10 = .ok (.iaload, 1) := by decide +kernel
theorem dX6_numberOf_11 : decode cX6_numberOf 11 = .ok (.i2l, 1) := by decide +kernel
theorem dX6_numberOf_12 : decode cX6_numberOf 12 = .ok (.lreturn, 1) := by decide +kernel
theorem dX6_load_0 : decode cX6_load 0 = .ok (.aload_n 0, 1) := by decide +kernel
theorem dX6_load_1 : decode cX6_load 1 = .ok (.iconst 0, 1) := by decide +kernel
theorem dX6_load_2 : decode cX6_load 2 = .ok (.putfield 77, 3) := by decide +kernel
theorem dX6_load_5 : decode cX6_load 5 = .ok (.aload_n 0, 1) := by decide +kernel
theorem dX6_load_6 : decode cX6_load 6 = .ok (.iload_n 1, 1) := by decide +kernel
theorem dX6_load_7 : decode cX6_load 7 = .ok (.invokevirtual 328, 3) := by decide +kernel
theorem dX6_load_10 : decode cX6_load 10 = .ok (.ifCond .eq 24, 3) := by decide +kernel
theorem dX6_load_13 : decode cX6_load 13 = .ok (.aload_n 0, 1) := by decide +kernel
theorem dX6_load_14 : decode cX6_load 14 = .ok (.iload_n 2, 1) := by decide +kernel
theorem dX6_load_15 : decode cX6_load 15 = .ok (.invokevirtual 308, 3) := by decide +kernel
theorem dX6_load_18 : decode cX6_load 18 = .ok (.ifCond .eq 16, 3) := by decide +kernel
theorem dX6_load_21 : decode cX6_load 21 = .ok (.aload_n 0, 1) := by decide +kernel
theorem dX6_load_22 : decode cX6_load 22 = .ok (.aload_n 0, 1) := by decide +kernel
theorem dX6_load_23 : decode cX6_load 23 = .ok (.iload_n 1, 1) := by decide +kernel
theorem dX6_load_24 : decode cX6_load 24 = .ok (.iload_n 2, 1) := by decide +kernel
theorem dX6_load_25 : decode cX6_load 25 = .ok (.invokevirtual 331, 3) := by decide +kernel
theorem dX6_load_28 : decode cX6_load 28 = .ok (.invokevirtual 315, 3) := by decide +kernel
theorem dX6_load_31 : decode cX6_load 31 = .ok (.goto 8, 3) := by decide +kernel
theorem dX6_load_34 : decode cX6_load 34 = .ok (.aload_n 0, 1) := by decide +kernel
theorem dX6_load_35 : decode cX6_load 35 = .ok (.iconst 1, 1) := by decide +kernel
theorem dX6_load_36 : decode cX6_load 36 = .ok (.invokevirtual 311, 3) := by decide +kernel
theorem dX6_load_39 : decode cX6_load 39 = .ok (.lreturn, 1) := by decide +kernel
theorem dX6_above_0 : decode cX6_above 0 = .ok (.aload_n 0, 1) := by decide +kernel
theorem dX6_above_1 : decode cX6_above 1 = .ok (.iload_n 1, 1) := by decide +kernel
theorem dX6_above_2 : decode cX6_above 2 = .ok (.iload_n 2, 1) := by decide +kernel
theorem dX6_above_3 : decode cX6_above 3 = .ok (.invokevirtual 331, 3) := by decide +kernel
theorem dX6_above_6 : decode cX6_above 6 = .ok (.iload_n 3, 1) := by decide +kernel
theorem dX6_above_7 : decode cX6_above 7 = .ok (.iload 4, 2) := by decide +kernel
theorem dX6_above_9 : decode cX6_above 9 = .ok (.aload_n 0, 1) := by decide +kernel
theorem dX6_above_10 : decode cX6_above 10 = .ok (.getfield 41, 3) := by decide +kernel
theorem dX6_above_13 : decode cX6_above 13 = .ok (.aload_n 0, 1) := by decide +kernel
theorem dX6_above_14 : decode cX6_above 14 = .ok (.iload_n 2, 1) := by decide +kernel
theorem dX6_above_15 : decode cX6_above 15 = .ok (.invokevirtual 282, 3) := by decide +kernel
theorem dX6_above_18 : decode cX6_above 18 = .ok (.iaload, 1) := by decide +kernel
theorem dX6_above_19 : decode cX6_above 19 = .ok (.aload_n 0, 1) := by decide +kernel
theorem dX6_above_20 : decode cX6_above 20 = .ok (.getfield 44, 3) := by decide +kernel
theorem dX6_above_23 : decode cX6_above 23 = .ok (.aload_n 0, 1) := by decide +kernel
theorem dX6_above_24 : decode cX6_above 24 = .ok (.iload_n 2, 1) := by decide +kernel
theorem dX6_above_25 : decode cX6_above 25 = .ok (.invokevirtual 282, 3) := by decide +kernel
theorem dX6_above_28 : decode cX6_above 28 = .ok (.iaload, 1) := by decide +kernel
theorem dX6_above_29 : decode cX6_above 29 = .ok (.invokestatic 227, 3) := by decide +kernel
theorem dX6_above_32 : decode cX6_above 32 = .ok (.i2l, 1) := by decide +kernel
theorem dX6_above_33 : decode cX6_above 33 = .ok (.lmul, 1) := by decide +kernel
theorem dX6_above_34 : decode cX6_above 34 = .ok (.aload_n 0, 1) := by decide +kernel
theorem dX6_above_35 : decode cX6_above 35 = .ok (.iload_n 1, 1) := by decide +kernel
theorem dX6_above_36 : decode cX6_above 36 = .ok (.aload_n 0, 1) := by decide +kernel
theorem dX6_above_37 : decode cX6_above 37 = .ok (.iload_n 2, 1) := by decide +kernel
theorem dX6_above_38 : decode cX6_above 38 = .ok (.invokevirtual 282, 3) := by decide +kernel
theorem dX6_above_41 : decode cX6_above 41 = .ok (.invokevirtual 331, 3) := by decide +kernel
theorem dX6_above_44 : decode cX6_above 44 = .ok (.aload_n 0, 1) := by decide +kernel
theorem dX6_above_45 : decode cX6_above 45 = .ok (.getfield 41, 3) := by decide +kernel
theorem dX6_above_48 : decode cX6_above 48 = .ok (.iload_n 2, 1) := by decide +kernel
theorem dX6_above_49 : decode cX6_above 49 = .ok (.iaload, 1) := by decide +kernel
theorem dX6_above_50 : decode cX6_above 50 = .ok (.aload_n 0, 1) := by decide +kernel
theorem dX6_above_51 : decode cX6_above 51 = .ok (.getfield 44, 3) := by decide +kernel
theorem dX6_above_54 : decode cX6_above 54 = .ok (.iload_n 2, 1) := by decide +kernel
theorem dX6_above_55 : decode cX6_above 55 = .ok (.iaload, 1) := by decide +kernel
theorem dX6_above_56 : decode cX6_above 56 = .ok (.iload_n 3, 1) := by decide +kernel
theorem dX6_above_57 : decode cX6_above 57 = .ok (.iload 4, 2) := by decide +kernel
theorem dX6_above_59 : decode cX6_above 59 = .ok (.invokestatic 227, 3) := by decide +kernel
theorem dX6_above_62 : decode cX6_above 62 = .ok (.i2l, 1) := by decide +kernel
theorem dX6_above_63 : decode cX6_above 63 = .ok (.lmul, 1) := by decide +kernel
theorem dX6_above_64 : decode cX6_above 64 = .ok (.ladd, 1) := by decide +kernel
theorem dX6_above_65 : decode cX6_above 65 = .ok (.lreturn, 1) := by decide +kernel
theorem dX6_function_0 : decode cX6_function 0 = .ok (.aload_n 0, 1) := by decide +kernel
theorem dX6_function_1 : decode cX6_function 1 = .ok (.iconst 0, 1) := by decide +kernel
theorem dX6_function_2 : decode cX6_function 2 = .ok (.putfield 77, 3) := by decide +kernel
theorem dX6_function_5 : decode cX6_function 5 = .ok (.aload_n 0, 1) := by decide +kernel
theorem dX6_function_6 : decode cX6_function 6 = .ok (.iload_n 1, 1) := by decide +kernel
theorem dX6_function_7 : decode cX6_function 7 = .ok (.invokevirtual 328, 3) := by decide +kernel
theorem dX6_function_10 : decode cX6_function 10 = .ok (.ifCond .eq 14, 3) := by decide +kernel
theorem dX6_function_13 : decode cX6_function 13 = .ok (.iload 4, 2) := by decide +kernel
theorem dX6_function_15 : decode cX6_function 15 = .ok (.i2l, 1) := by decide +kernel
theorem dX6_function_16 : decode cX6_function 16 = .ok (.lconst 0, 1) := by decide +kernel
theorem dX6_function_17 : decode cX6_function 17 = .ok (.lconst 1, 1) := by decide +kernel
theorem dX6_function_18 : decode cX6_function 18 = .ok (.invokestatic 108, 3) := by decide +kernel
theorem dX6_function_21 : decode cX6_function 21 = .ok (.ifCond .ne 9, 3) := by decide +kernel
theorem dX6_function_24 : decode cX6_function 24 = .ok (.aload_n 0, 1) := by decide +kernel
theorem dX6_function_25 : decode cX6_function 25 = .ok (.iconst 1, 1) := by decide +kernel
theorem dX6_function_26 : decode cX6_function 26 = .ok (.invokevirtual 311, 3) := by decide +kernel
theorem dX6_function_29 : decode cX6_function 29 = .ok (.lreturn, 1) := by decide +kernel
theorem dX6_function_30 : decode cX6_function 30 = .ok (.iload_n 2, 1) := by decide +kernel
theorem dX6_function_31 : decode cX6_function 31 = .ok (.iload_n 3, 1) := by decide +kernel
theorem dX6_function_32 : decode cX6_function 32 = .ok (.invokestatic 322, 3) := by decide +kernel
theorem dX6_function_35 : decode cX6_function 35 = .ok (.ifCond .ne 9, 3) := by decide +kernel
theorem dX6_function_38 : decode cX6_function 38 = .ok (.aload_n 0, 1) := by decide +kernel
theorem dX6_function_39 : decode cX6_function 39 = .ok (.iconst 2, 1) := by decide +kernel
theorem dX6_function_40 : decode cX6_function 40 = .ok (.invokevirtual 311, 3) := by decide +kernel
theorem dX6_function_43 : decode cX6_function 43 = .ok (.lreturn, 1) := by decide +kernel
theorem dX6_function_44 : decode cX6_function 44 = .ok (.iload_n 2, 1) := by decide +kernel
theorem dX6_function_45 : decode cX6_function 45 = .ok (.ifCond .ne 15, 3) := by decide +kernel
theorem dX6_function_48 : decode cX6_function 48 = .ok (.iload_n 3, 1) := by decide +kernel
theorem dX6_function_49 : decode cX6_function 49 = .ok (.ifCond .ne 11, 3) := by decide +kernel
theorem dX6_function_52 : decode cX6_function 52 = .ok (.aload_n 0, 1) := by decide +kernel
theorem dX6_function_53 : decode cX6_function 53 = .ok (.iload 4, 2) := by decide +kernel
theorem dX6_function_55 : decode cX6_function 55 = .ok (.i2l, 1) := by decide +kernel
theorem dX6_function_56 : decode cX6_function 56 = .ok (.invokevirtual 315, 3) := by decide +kernel
theorem dX6_function_59 : decode cX6_function 59 = .ok (.lreturn, 1) := by decide +kernel
theorem dX6_function_60 : decode cX6_function 60 = .ok (.aload_n 0, 1) := by decide +kernel
theorem dX6_function_61 : decode cX6_function 61 = .ok (.iload_n 2, 1) := by decide +kernel
theorem dX6_function_62 : decode cX6_function 62 = .ok (.iload_n 3, 1) := by decide +kernel
theorem dX6_function_63 : decode cX6_function 63 = .ok (.invokevirtual 325, 3) := by decide +kernel
theorem dX6_function_66 : decode cX6_function 66 = .ok (.istore 5, 2) := by decide +kernel
theorem dX6_function_68 : decode cX6_function 68 = .ok (.aload_n 0, 1) := by decide +kernel
theorem dX6_function_69 : decode cX6_function 69 = .ok (.iload_n 1, 1) := by decide +kernel
theorem dX6_function_70 : decode cX6_function 70 = .ok (.iload 5, 2) := by decide +kernel
theorem dX6_function_72 : decode cX6_function 72 = .ok (.iload_n 2, 1) := by decide +kernel
theorem dX6_function_73 : decode cX6_function 73 = .ok (.iload_n 3, 1) := by decide +kernel
theorem dX6_function_74 : decode cX6_function 74 = .ok (.invokevirtual 335, 3) := by decide +kernel
theorem dX6_function_77 : decode cX6_function 77 = .ok (.lstore 6, 2) := by decide +kernel
theorem dX6_function_79 : decode cX6_function 79 = .ok (.lload 6, 2) := by decide +kernel
theorem dX6_function_81 : decode cX6_function 81 = .ok (.aload_n 0, 1) := by decide +kernel
theorem dX6_function_82 : decode cX6_function 82 = .ok (.iload 5, 2) := by decide +kernel
theorem dX6_function_84 : decode cX6_function 84 = .ok (.invokevirtual 288, 3) := by decide +kernel
theorem dX6_function_87 : decode cX6_function 87 = .ok (.i2l, 1) := by decide +kernel
theorem dX6_function_88 : decode cX6_function 88 = .ok (.invokestatic 202, 3) := by decide +kernel
theorem dX6_function_91 : decode cX6_function 91 = .ok (.lstore 8, 2) := by decide +kernel
theorem dX6_function_93 : decode cX6_function 93 = .ok (.aload_n 0, 1) := by decide +kernel
theorem dX6_function_94 : decode cX6_function 94 = .ok (.iload 4, 2) := by decide +kernel
theorem dX6_function_96 : decode cX6_function 96 = .ok (.ifCond .ne 8, 3) := by decide +kernel
theorem dX6_function_99 : decode cX6_function 99 = .ok (.lload 6, 2) := by decide +kernel
theorem dX6_function_101 : decode cX6_function 101 = .ok (.goto 10, 3) := by decide +kernel
theorem dX6_function_104 : decode cX6_function 104 = .ok (.aload_n 0, 1) := by decide +kernel
theorem dX6_function_105 : decode cX6_function 105 = .ok (.iload 5, 2) := by decide +kernel
theorem dX6_function_107 : decode cX6_function 107 = .ok (.invokevirtual 288, 3) := by decide +kernel
theorem dX6_function_110 : decode cX6_function 110 = .ok (.i2l, 1) := by decide +kernel
theorem dX6_function_111 : decode cX6_function 111 = .ok (.lload 8, 2) := by decide +kernel
theorem dX6_function_113 : decode cX6_function 113 = .ok (.ldiv, 1) := by decide +kernel
theorem dX6_function_114 : decode cX6_function 114 = .ok (.invokevirtual 315, 3) := by decide +kernel
theorem dX6_function_117 : decode cX6_function 117 = .ok (.lreturn, 1) := by decide +kernel
theorem dX6_pieceX_0 : decode cX6_pieceX 0 = .ok (.aload_n 0, 1) := by decide +kernel
theorem dX6_pieceX_1 : decode cX6_pieceX 1 = .ok (.iload_n 1, 1) := by decide +kernel
theorem dX6_pieceX_2 : decode cX6_pieceX 2 = .ok (.aload_n 0, 1) := by decide +kernel
theorem dX6_pieceX_3 : decode cX6_pieceX 3 = .ok (.iload_n 2, 1) := by decide +kernel
theorem dX6_pieceX_4 : decode cX6_pieceX 4 = .ok (.invokevirtual 282, 3) := by decide +kernel
theorem dX6_pieceX_7 : decode cX6_pieceX 7 = .ok (.invokevirtual 331, 3) := by decide +kernel
theorem dX6_pieceX_10 : decode cX6_pieceX 10 = .ok (.aload_n 0, 1) := by decide +kernel
theorem dX6_pieceX_11 : decode cX6_pieceX 11 = .ok (.getfield 44, 3) := by decide +kernel
theorem dX6_pieceX_14 : decode cX6_pieceX 14 = .ok (.iload_n 2, 1) := by decide +kernel
theorem dX6_pieceX_15 : decode cX6_pieceX 15 = .ok (.iaload, 1) := by decide +kernel
theorem dX6_pieceX_16 : decode cX6_pieceX 16 = .ok (.i2l, 1) := by decide +kernel
theorem dX6_pieceX_17 : decode cX6_pieceX 17 = .ok (.lmul, 1) := by decide +kernel
theorem dX6_pieceX_18 : decode cX6_pieceX 18 = .ok (.aload_n 0, 1) := by decide +kernel
theorem dX6_pieceX_19 : decode cX6_pieceX 19 = .ok (.iload_n 1, 1) := by decide +kernel
theorem dX6_pieceX_20 : decode cX6_pieceX 20 = .ok (.iload_n 2, 1) := by decide +kernel
theorem dX6_pieceX_21 : decode cX6_pieceX 21 = .ok (.invokevirtual 331, 3) := by decide +kernel
theorem dX6_pieceX_24 : decode cX6_pieceX 24 = .ok (.aload_n 0, 1) := by decide +kernel
theorem dX6_pieceX_25 : decode cX6_pieceX 25 = .ok (.getfield 44, 3) := by decide +kernel
theorem dX6_pieceX_28 : decode cX6_pieceX 28 = .ok (.aload_n 0, 1) := by decide +kernel
theorem dX6_pieceX_29 : decode cX6_pieceX 29 = .ok (.iload_n 2, 1) := by decide +kernel
theorem dX6_pieceX_30 : decode cX6_pieceX 30 = .ok (.invokevirtual 282, 3) := by decide +kernel
theorem dX6_pieceX_33 : decode cX6_pieceX 33 = .ok (.iaload, 1) := by decide +kernel
theorem dX6_pieceX_34 : decode cX6_pieceX 34 = .ok (.i2l, 1) := by decide +kernel
theorem dX6_pieceX_35 : decode cX6_pieceX 35 = .ok (.lmul, 1) := by decide +kernel
theorem dX6_pieceX_36 : decode cX6_pieceX 36 = .ok (.lsub, 1) := by decide +kernel
theorem dX6_pieceX_37 : decode cX6_pieceX 37 = .ok (.lreturn, 1) := by decide +kernel
theorem dX6_pieceY_0 : decode cX6_pieceY 0 = .ok (.aload_n 0, 1) := by decide +kernel
theorem dX6_pieceY_1 : decode cX6_pieceY 1 = .ok (.iload_n 1, 1) := by decide +kernel
theorem dX6_pieceY_2 : decode cX6_pieceY 2 = .ok (.iload_n 2, 1) := by decide +kernel
theorem dX6_pieceY_3 : decode cX6_pieceY 3 = .ok (.invokevirtual 331, 3) := by decide +kernel
theorem dX6_pieceY_6 : decode cX6_pieceY 6 = .ok (.aload_n 0, 1) := by decide +kernel
theorem dX6_pieceY_7 : decode cX6_pieceY 7 = .ok (.getfield 41, 3) := by decide +kernel
theorem dX6_pieceY_10 : decode cX6_pieceY 10 = .ok (.aload_n 0, 1) := by decide +kernel
theorem dX6_pieceY_11 : decode cX6_pieceY 11 = .ok (.iload_n 2, 1) := by decide +kernel
theorem dX6_pieceY_12 : decode cX6_pieceY 12 = .ok (.invokevirtual 282, 3) := by decide +kernel
theorem dX6_pieceY_15 : decode cX6_pieceY 15 = .ok (.iaload, 1) := by decide +kernel
theorem dX6_pieceY_16 : decode cX6_pieceY 16 = .ok (.i2l, 1) := by decide +kernel
theorem dX6_pieceY_17 : decode cX6_pieceY 17 = .ok (.lmul, 1) := by decide +kernel
theorem dX6_pieceY_18 : decode cX6_pieceY 18 = .ok (.aload_n 0, 1) := by decide +kernel
theorem dX6_pieceY_19 : decode cX6_pieceY 19 = .ok (.iload_n 1, 1) := by decide +kernel
theorem dX6_pieceY_20 : decode cX6_pieceY 20 = .ok (.aload_n 0, 1) := by decide +kernel
theorem dX6_pieceY_21 : decode cX6_pieceY 21 = .ok (.iload_n 2, 1) := by decide +kernel
theorem dX6_pieceY_22 : decode cX6_pieceY 22 = .ok (.invokevirtual 282, 3) := by decide +kernel
theorem dX6_pieceY_25 : decode cX6_pieceY 25 = .ok (.invokevirtual 331, 3) := by decide +kernel
theorem dX6_pieceY_28 : decode cX6_pieceY 28 = .ok (.aload_n 0, 1) := by decide +kernel
theorem dX6_pieceY_29 : decode cX6_pieceY 29 = .ok (.getfield 41, 3) := by decide +kernel
theorem dX6_pieceY_32 : decode cX6_pieceY 32 = .ok (.iload_n 2, 1) := by decide +kernel
theorem dX6_pieceY_33 : decode cX6_pieceY 33 = .ok (.iaload, 1) := by decide +kernel
theorem dX6_pieceY_34 : decode cX6_pieceY 34 = .ok (.i2l, 1) := by decide +kernel
theorem dX6_pieceY_35 : decode cX6_pieceY 35 = .ok (.lmul, 1) := by decide +kernel
theorem dX6_pieceY_36 : decode cX6_pieceY 36 = .ok (.lsub, 1) := by decide +kernel
theorem dX6_pieceY_37 : decode cX6_pieceY 37 = .ok (.lreturn, 1) := by decide +kernel
theorem dX6_isWhole_0 : decode cX6_isWhole 0 = .ok (.aload_n 0, 1) := by decide +kernel
theorem dX6_isWhole_1 : decode cX6_isWhole 1 = .ok (.iload_n 1, 1) := by decide +kernel
theorem dX6_isWhole_2 : decode cX6_isWhole 2 = .ok (.iload_n 2, 1) := by decide +kernel
theorem dX6_isWhole_3 : decode cX6_isWhole 3 = .ok (.invokevirtual 339, 3) := by decide +kernel
theorem dX6_isWhole_6 : decode cX6_isWhole 6 = .ok (.aload_n 0, 1) := by decide +kernel
theorem dX6_isWhole_7 : decode cX6_isWhole 7 = .ok (.iload_n 2, 1) := by decide +kernel
theorem dX6_isWhole_8 : decode cX6_isWhole 8 = .ok (.invokevirtual 288, 3) := by decide +kernel
theorem dX6_isWhole_11 : decode cX6_isWhole 11 = .ok (.i2l, 1) := by decide +kernel
theorem dX6_isWhole_12 : decode cX6_isWhole 12 = .ok (.lrem, 1) := by decide +kernel
theorem dX6_isWhole_13 : decode cX6_isWhole 13 = .ok (.lconst 0, 1) := by decide +kernel
theorem dX6_isWhole_14 : decode cX6_isWhole 14 = .ok (.lcmp, 1) := by decide +kernel
theorem dX6_isWhole_15 : decode cX6_isWhole 15 = .ok (.ifCond .ne 25, 3) := by decide +kernel
theorem dX6_isWhole_18 : decode cX6_isWhole 18 = .ok (.aload_n 0, 1) := by decide +kernel
theorem dX6_isWhole_19 : decode cX6_isWhole 19 = .ok (.iload_n 1, 1) := by decide +kernel
theorem dX6_isWhole_20 : decode cX6_isWhole 20 = .ok (.iload_n 2, 1) := by decide +kernel
theorem dX6_isWhole_21 : decode cX6_isWhole 21 = .ok (.invokevirtual 342, 3) := by decide +kernel
theorem dX6_isWhole_24 : decode cX6_isWhole 24 = .ok (.aload_n 0, 1) := by decide +kernel
theorem dX6_isWhole_25 : decode cX6_isWhole 25 = .ok (.iload_n 2, 1) := by decide +kernel
theorem dX6_isWhole_26 : decode cX6_isWhole 26 = .ok (.invokevirtual 288, 3) := by decide +kernel
theorem dX6_isWhole_29 : decode cX6_isWhole 29 = .ok (.i2l, 1) := by decide +kernel
theorem dX6_isWhole_30 : decode cX6_isWhole 30 = .ok (.lrem, 1) := by decide +kernel
theorem dX6_isWhole_31 : decode cX6_isWhole 31 = .ok (.lconst 0, 1) := by decide +kernel
theorem dX6_isWhole_32 : decode cX6_isWhole 32 = .ok (.lcmp, 1) := by decide +kernel
theorem dX6_isWhole_33 : decode cX6_isWhole 33 = .ok (.ifCond .ne 7, 3) := by decide +kernel
theorem dX6_isWhole_36 : decode cX6_isWhole 36 = .ok (.iconst 1, 1) := by decide +kernel
theorem dX6_isWhole_37 : decode cX6_isWhole 37 = .ok (.goto 4, 3) := by decide +kernel
theorem dX6_isWhole_40 : decode cX6_isWhole 40 = .ok (.iconst 0, 1) := by decide +kernel
theorem dX6_isWhole_41 : decode cX6_isWhole 41 = .ok (.ireturn, 1) := by decide +kernel
theorem dX6_piece_0 : decode cX6_piece 0 = .ok (.aload_n 0, 1) := by decide +kernel
theorem dX6_piece_1 : decode cX6_piece 1 = .ok (.iconst 0, 1) := by decide +kernel
theorem dX6_piece_2 : decode cX6_piece 2 = .ok (.putfield 77, 3) := by decide +kernel
theorem dX6_piece_5 : decode cX6_piece 5 = .ok (.aload_n 0, 1) := by decide +kernel
theorem dX6_piece_6 : decode cX6_piece 6 = .ok (.iload_n 1, 1) := by decide +kernel
theorem dX6_piece_7 : decode cX6_piece 7 = .ok (.invokevirtual 328, 3) := by decide +kernel
theorem dX6_piece_10 : decode cX6_piece 10 = .ok (.ifCond .eq 23, 3) := by decide +kernel
theorem dX6_piece_13 : decode cX6_piece 13 = .ok (.aload_n 0, 1) := by decide +kernel
theorem dX6_piece_14 : decode cX6_piece 14 = .ok (.iload_n 2, 1) := by decide +kernel
theorem dX6_piece_15 : decode cX6_piece 15 = .ok (.invokevirtual 308, 3) := by decide +kernel
theorem dX6_piece_18 : decode cX6_piece 18 = .ok (.ifCond .eq 15, 3) := by decide +kernel
theorem dX6_piece_21 : decode cX6_piece 21 = .ok (.iload_n 3, 1) := by decide +kernel
theorem dX6_piece_22 : decode cX6_piece 22 = .ok (.i2l, 1) := by decide +kernel
theorem dX6_piece_23 : decode cX6_piece 23 = .ok (.lconst 0, 1) := by decide +kernel
theorem dX6_piece_24 : decode cX6_piece 24 = .ok (.ldc2_w 345, 3) := by decide +kernel
theorem dX6_piece_27 : decode cX6_piece 27 = .ok (.invokestatic 108, 3) := by decide +kernel
theorem dX6_piece_30 : decode cX6_piece 30 = .ok (.ifCond .ne 9, 3) := by decide +kernel
theorem dX6_piece_33 : decode cX6_piece 33 = .ok (.aload_n 0, 1) := by decide +kernel
theorem dX6_piece_34 : decode cX6_piece 34 = .ok (.iconst 1, 1) := by decide +kernel
theorem dX6_piece_35 : decode cX6_piece 35 = .ok (.invokevirtual 311, 3) := by decide +kernel
theorem dX6_piece_38 : decode cX6_piece 38 = .ok (.lreturn, 1) := by decide +kernel
theorem dX6_piece_39 : decode cX6_piece 39 = .ok (.aload_n 0, 1) := by decide +kernel
theorem dX6_piece_40 : decode cX6_piece 40 = .ok (.iload_n 3, 1) := by decide +kernel
theorem dX6_piece_41 : decode cX6_piece 41 = .ok (.ifCond .ne 12, 3) := by decide +kernel
theorem dX6_piece_44 : decode cX6_piece 44 = .ok (.aload_n 0, 1) := by decide +kernel
theorem dX6_piece_45 : decode cX6_piece 45 = .ok (.iload_n 1, 1) := by decide +kernel
theorem dX6_piece_46 : decode cX6_piece 46 = .ok (.iload_n 2, 1) := by decide +kernel
theorem dX6_piece_47 : decode cX6_piece 47 = .ok (.invokevirtual 339, 3) := by decide +kernel
theorem dX6_piece_50 : decode cX6_piece 50 = .ok (.goto 31, 3) := by decide +kernel
theorem dX6_piece_53 : decode cX6_piece 53 = .ok (.iload_n 3, 1) := by decide +kernel
theorem dX6_piece_54 : decode cX6_piece 54 = .ok (.iconst 1, 1) := by decide +kernel
theorem dX6_piece_55 : decode cX6_piece 55 = .ok (.if_icmp .ne 12, 3) := by decide +kernel
theorem dX6_piece_58 : decode cX6_piece 58 = .ok (.aload_n 0, 1) := by decide +kernel
theorem dX6_piece_59 : decode cX6_piece 59 = .ok (.iload_n 1, 1) := by decide +kernel
theorem dX6_piece_60 : decode cX6_piece 60 = .ok (.iload_n 2, 1) := by decide +kernel
theorem dX6_piece_61 : decode cX6_piece 61 = .ok (.invokevirtual 342, 3) := by decide +kernel
theorem dX6_piece_64 : decode cX6_piece 64 = .ok (.goto 17, 3) := by decide +kernel
theorem dX6_piece_67 : decode cX6_piece 67 = .ok (.aload_n 0, 1) := by decide +kernel
theorem dX6_piece_68 : decode cX6_piece 68 = .ok (.iload_n 1, 1) := by decide +kernel
theorem dX6_piece_69 : decode cX6_piece 69 = .ok (.iload_n 2, 1) := by decide +kernel
theorem dX6_piece_70 : decode cX6_piece 70 = .ok (.invokevirtual 347, 3) := by decide +kernel
theorem dX6_piece_73 : decode cX6_piece 73 = .ok (.ifCond .eq 7, 3) := by decide +kernel
theorem dX6_piece_76 : decode cX6_piece 76 = .ok (.lconst 1, 1) := by decide +kernel
theorem dX6_piece_77 : decode cX6_piece 77 = .ok (.goto 4, 3) := by decide +kernel
theorem dX6_piece_80 : decode cX6_piece 80 = .ok (.lconst 0, 1) := by decide +kernel
theorem dX6_piece_81 : decode cX6_piece 81 = .ok (.invokevirtual 315, 3) := by decide +kernel
theorem dX6_piece_84 : decode cX6_piece 84 = .ok (.lreturn, 1) := by decide +kernel
theorem dX6_broken_0 : decode cX6_broken 0 = .ok (.aload_n 0, 1) := by decide +kernel
theorem dX6_broken_1 : decode cX6_broken 1 = .ok (.iconst 0, 1) := by decide +kernel
theorem dX6_broken_2 : decode cX6_broken 2 = .ok (.putfield 77, 3) := by decide +kernel
theorem dX6_broken_5 : decode cX6_broken 5 = .ok (.aload_n 0, 1) := by decide +kernel
theorem dX6_broken_6 : decode cX6_broken 6 = .ok (.iload_n 1, 1) := by decide +kernel
theorem dX6_broken_7 : decode cX6_broken 7 = .ok (.invokevirtual 328, 3) := by decide +kernel
theorem dX6_broken_10 : decode cX6_broken 10 = .ok (.ifCond .ne 9, 3) := by decide +kernel
theorem dX6_broken_13 : decode cX6_broken 13 = .ok (.aload_n 0, 1) := by decide +kernel
theorem dX6_broken_14 : decode cX6_broken 14 = .ok (.iconst 1, 1) := by decide +kernel
theorem dX6_broken_15 : decode cX6_broken 15 = .ok (.invokevirtual 267, 3) := by decide +kernel
theorem dX6_broken_18 : decode cX6_broken 18 = .ok (.ireturn, 1) := by decide +kernel
theorem dX6_broken_19 : decode cX6_broken 19 = .ok (.iconst 0, 1) := by decide +kernel
theorem dX6_broken_20 : decode cX6_broken 20 = .ok (.istore_n 2, 1) := by decide +kernel
theorem dX6_broken_21 : decode cX6_broken 21 = .ok (.iconst 0, 1) := by decide +kernel
theorem dX6_broken_22 : decode cX6_broken 22 = .ok (.istore_n 3, 1) := by decide +kernel
theorem dX6_broken_23 : decode cX6_broken 23 = .ok (.iload_n 3, 1) := by decide +kernel
theorem dX6_broken_24 : decode cX6_broken 24 = .ok (.aload_n 0, 1) := by decide +kernel
theorem dX6_broken_25 : decode cX6_broken 25 = .ok (.getfield 255, 3) := by decide +kernel
theorem dX6_broken_28 : decode cX6_broken 28 = .ok (.if_icmp .ge 28, 3) := by decide +kernel
theorem dX6_broken_31 : decode cX6_broken 31 = .ok (.iload_n 2, 1) := by decide +kernel
theorem dX6_broken_32 : decode cX6_broken 32 = .ok (.aload_n 0, 1) := by decide +kernel
theorem dX6_broken_33 : decode cX6_broken 33 = .ok (.iload_n 1, 1) := by decide +kernel
theorem dX6_broken_34 : decode cX6_broken 34 = .ok (.iload_n 3, 1) := by decide +kernel
theorem dX6_broken_35 : decode cX6_broken 35 = .ok (.invokevirtual 347, 3) := by decide +kernel
theorem dX6_broken_38 : decode cX6_broken 38 = .ok (.ifCond .eq 7, 3) := by decide +kernel
theorem dX6_broken_41 : decode cX6_broken 41 = .ok (.iconst 0, 1) := by decide +kernel
theorem dX6_broken_42 : decode cX6_broken 42 = .ok (.goto 6, 3) := by decide +kernel
theorem dX6_broken_45 : decode cX6_broken 45 = .ok (.iconst 1, 1) := by decide +kernel
theorem dX6_broken_46 : decode cX6_broken 46 = .ok (.iload_n 3, 1) := by decide +kernel
theorem dX6_broken_47 : decode cX6_broken 47 = .ok (.ishl, 1) := by decide +kernel
theorem dX6_broken_48 : decode cX6_broken 48 = .ok (.ior, 1) := by decide +kernel
theorem dX6_broken_49 : decode cX6_broken 49 = .ok (.istore_n 2, 1) := by decide +kernel
theorem dX6_broken_50 : decode cX6_broken 50 = .ok (.iinc 3 1, 3) := by decide +kernel
theorem dX6_broken_53 : decode cX6_broken 53 = .ok (.goto (-30), 3) := by decide +kernel
theorem dX6_broken_56 : decode cX6_broken 56 = .ok (.aload_n 0, 1) := by decide +kernel
theorem dX6_broken_57 : decode cX6_broken 57 = .ok (.iload_n 2, 1) := by decide +kernel
theorem dX6_broken_58 : decode cX6_broken 58 = .ok (.invokevirtual 270, 3) := by decide +kernel
theorem dX6_broken_61 : decode cX6_broken 61 = .ok (.ireturn, 1) := by decide +kernel
theorem dX6_bent_0 : decode cX6_bent 0 = .ok (.aload_n 0, 1) := by decide +kernel
theorem dX6_bent_1 : decode cX6_bent 1 = .ok (.iconst 0, 1) := by decide +kernel
theorem dX6_bent_2 : decode cX6_bent 2 = .ok (.putfield 77, 3) := by decide +kernel
theorem dX6_bent_5 : decode cX6_bent 5 = .ok (.aload_n 0, 1) := by decide +kernel
theorem dX6_bent_6 : decode cX6_bent 6 = .ok (.iload_n 1, 1) := by decide +kernel
theorem dX6_bent_7 : decode cX6_bent 7 = .ok (.invokevirtual 328, 3) := by decide +kernel
theorem dX6_bent_10 : decode cX6_bent 10 = .ok (.ifCond .ne 9, 3) := by decide +kernel
theorem dX6_bent_13 : decode cX6_bent 13 = .ok (.aload_n 0, 1) := by decide +kernel
theorem dX6_bent_14 : decode cX6_bent 14 = .ok (.iconst 1, 1) := by decide +kernel
theorem dX6_bent_15 : decode cX6_bent 15 = .ok (.invokevirtual 267, 3) := by decide +kernel
theorem dX6_bent_18 : decode cX6_bent 18 = .ok (.ireturn, 1) := by decide +kernel
theorem dX6_bent_19 : decode cX6_bent 19 = .ok (.iconst 1, 1) := by decide +kernel
theorem dX6_bent_20 : decode cX6_bent 20 = .ok (.istore_n 2, 1) := by decide +kernel
theorem dX6_bent_21 : decode cX6_bent 21 = .ok (.iconst 1, 1) := by decide +kernel
theorem dX6_bent_22 : decode cX6_bent 22 = .ok (.istore_n 3, 1) := by decide +kernel
theorem dX6_bent_23 : decode cX6_bent 23 = .ok (.iconst 0, 1) := by decide +kernel
theorem dX6_bent_24 : decode cX6_bent 24 = .ok (.istore 4, 2) := by decide +kernel
theorem dX6_bent_26 : decode cX6_bent 26 = .ok (.iload 4, 2) := by decide +kernel
theorem dX6_bent_28 : decode cX6_bent 28 = .ok (.aload_n 0, 1) := by decide +kernel
theorem dX6_bent_29 : decode cX6_bent 29 = .ok (.getfield 255, 3) := by decide +kernel
theorem dX6_bent_32 : decode cX6_bent 32 = .ok (.if_icmp .ge 110, 3) := by decide +kernel
theorem dX6_bent_35 : decode cX6_bent 35 = .ok (.aload_n 0, 1) := by decide +kernel
theorem dX6_bent_36 : decode cX6_bent 36 = .ok (.iload 4, 2) := by decide +kernel
theorem dX6_bent_38 : decode cX6_bent 38 = .ok (.invokevirtual 293, 3) := by decide +kernel
theorem dX6_bent_41 : decode cX6_bent 41 = .ok (.istore 5, 2) := by decide +kernel
theorem dX6_bent_43 : decode cX6_bent 43 = .ok (.aload_n 0, 1) := by decide +kernel
theorem dX6_bent_44 : decode cX6_bent 44 = .ok (.iload 4, 2) := by decide +kernel
theorem dX6_bent_46 : decode cX6_bent 46 = .ok (.invokevirtual 282, 3) := by decide +kernel
theorem dX6_bent_49 : decode cX6_bent 49 = .ok (.istore 6, 2) := by decide +kernel
theorem dX6_bent_51 : decode cX6_bent 51 = .ok (.aload_n 0, 1) := by decide +kernel
theorem dX6_bent_52 : decode cX6_bent 52 = .ok (.iload_n 1, 1) := by decide +kernel
theorem dX6_bent_53 : decode cX6_bent 53 = .ok (.iload 5, 2) := by decide +kernel
theorem dX6_bent_55 : decode cX6_bent 55 = .ok (.invokevirtual 331, 3) := by decide +kernel
theorem dX6_bent_58 : decode cX6_bent 58 = .ok (.aload_n 0, 1) := by decide +kernel
theorem dX6_bent_59 : decode cX6_bent 59 = .ok (.iload 4, 2) := by decide +kernel
theorem dX6_bent_61 : decode cX6_bent 61 = .ok (.invokevirtual 288, 3) := by decide +kernel
theorem dX6_bent_64 : decode cX6_bent 64 = .ok (.i2l, 1) := by decide +kernel
theorem dX6_bent_65 : decode cX6_bent 65 = .ok (.lmul, 1) := by decide +kernel
theorem dX6_bent_66 : decode cX6_bent 66 = .ok (.aload_n 0, 1) := by decide +kernel
theorem dX6_bent_67 : decode cX6_bent 67 = .ok (.iload_n 1, 1) := by decide +kernel
theorem dX6_bent_68 : decode cX6_bent 68 = .ok (.iload 6, 2) := by decide +kernel
theorem dX6_bent_70 : decode cX6_bent 70 = .ok (.invokevirtual 331, 3) := by decide +kernel
theorem dX6_bent_73 : decode cX6_bent 73 = .ok (.aload_n 0, 1) := by decide +kernel
theorem dX6_bent_74 : decode cX6_bent 74 = .ok (.iload 5, 2) := by decide +kernel
theorem dX6_bent_76 : decode cX6_bent 76 = .ok (.invokevirtual 288, 3) := by decide +kernel
theorem dX6_bent_79 : decode cX6_bent 79 = .ok (.i2l, 1) := by decide +kernel
theorem dX6_bent_80 : decode cX6_bent 80 = .ok (.lmul, 1) := by decide +kernel
theorem dX6_bent_81 : decode cX6_bent 81 = .ok (.ladd, 1) := by decide +kernel
theorem dX6_bent_82 : decode cX6_bent 82 = .ok (.aload_n 0, 1) := by decide +kernel
theorem dX6_bent_83 : decode cX6_bent 83 = .ok (.iload_n 1, 1) := by decide +kernel
theorem dX6_bent_84 : decode cX6_bent 84 = .ok (.iload 4, 2) := by decide +kernel
theorem dX6_bent_86 : decode cX6_bent 86 = .ok (.invokevirtual 331, 3) := by decide +kernel
theorem dX6_bent_89 : decode cX6_bent 89 = .ok (.aload_n 0, 1) := by decide +kernel
theorem dX6_bent_90 : decode cX6_bent 90 = .ok (.iload 5, 2) := by decide +kernel
theorem dX6_bent_92 : decode cX6_bent 92 = .ok (.iload 6, 2) := by decide +kernel
theorem dX6_bent_94 : decode cX6_bent 94 = .ok (.invokevirtual 285, 3) := by decide +kernel
theorem dX6_bent_97 : decode cX6_bent 97 = .ok (.i2l, 1) := by decide +kernel
theorem dX6_bent_98 : decode cX6_bent 98 = .ok (.lmul, 1) := by decide +kernel
theorem dX6_bent_99 : decode cX6_bent 99 = .ok (.lsub, 1) := by decide +kernel
theorem dX6_bent_100 : decode cX6_bent 100 = .ok (.lstore 7, 2) := by decide +kernel
theorem dX6_bent_102 : decode cX6_bent 102 = .ok (.iload_n 2, 1) := by decide +kernel
theorem dX6_bent_103 : decode cX6_bent 103 = .ok (.ifCond .eq 14, 3) := by decide +kernel
theorem dX6_bent_106 : decode cX6_bent 106 = .ok (.lload 7, 2) := by decide +kernel
theorem dX6_bent_108 : decode cX6_bent 108 = .ok (.lconst 0, 1) := by decide +kernel
theorem dX6_bent_109 : decode cX6_bent 109 = .ok (.lcmp, 1) := by decide +kernel
theorem dX6_bent_110 : decode cX6_bent 110 = .ok (.ifCond .lt 7, 3) := by decide +kernel
theorem dX6_bent_113 : decode cX6_bent 113 = .ok (.iconst 1, 1) := by decide +kernel
theorem dX6_bent_114 : decode cX6_bent 114 = .ok (.goto 4, 3) := by decide +kernel
theorem dX6_bent_117 : decode cX6_bent 117 = .ok (.iconst 0, 1) := by decide +kernel
theorem dX6_bent_118 : decode cX6_bent 118 = .ok (.istore_n 2, 1) := by decide +kernel
theorem dX6_bent_119 : decode cX6_bent 119 = .ok (.iload_n 3, 1) := by decide +kernel
theorem dX6_bent_120 : decode cX6_bent 120 = .ok (.ifCond .eq 14, 3) := by decide +kernel
theorem dX6_bent_123 : decode cX6_bent 123 = .ok (.lload 7, 2) := by decide +kernel
theorem dX6_bent_125 : decode cX6_bent 125 = .ok (.lconst 0, 1) := by decide +kernel
theorem dX6_bent_126 : decode cX6_bent 126 = .ok (.lcmp, 1) := by decide +kernel
theorem dX6_bent_127 : decode cX6_bent 127 = .ok (.ifCond .le 7, 3) := by decide +kernel
theorem dX6_bent_130 : decode cX6_bent 130 = .ok (.iconst 1, 1) := by decide +kernel
theorem dX6_bent_131 : decode cX6_bent 131 = .ok (.goto 4, 3) := by decide +kernel
theorem dX6_bent_134 : decode cX6_bent 134 = .ok (.iconst 0, 1) := by decide +kernel
theorem dX6_bent_135 : decode cX6_bent 135 = .ok (.istore_n 3, 1) := by decide +kernel
theorem dX6_bent_136 : decode cX6_bent 136 = .ok (.iinc 4 1, 3) := by decide +kernel
theorem dX6_bent_139 : decode cX6_bent 139 = .ok (.goto (-113), 3) := by decide +kernel
theorem dX6_bent_142 : decode cX6_bent 142 = .ok (.aload_n 0, 1) := by decide +kernel
theorem dX6_bent_143 : decode cX6_bent 143 = .ok (.iload_n 3, 1) := by decide +kernel
theorem dX6_bent_144 : decode cX6_bent 144 = .ok (.ifCond .eq 7, 3) := by decide +kernel
theorem dX6_bent_147 : decode cX6_bent 147 = .ok (.iconst 2, 1) := by decide +kernel
theorem dX6_bent_148 : decode cX6_bent 148 = .ok (.goto 12, 3) := by decide +kernel
theorem dX6_bent_151 : decode cX6_bent 151 = .ok (.iload_n 2, 1) := by decide +kernel
theorem dX6_bent_152 : decode cX6_bent 152 = .ok (.ifCond .eq 7, 3) := by decide +kernel
theorem dX6_bent_155 : decode cX6_bent 155 = .ok (.iconst 1, 1) := by decide +kernel
theorem dX6_bent_156 : decode cX6_bent 156 = .ok (.goto 4, 3) := by decide +kernel
theorem dX6_bent_159 : decode cX6_bent 159 = .ok (.iconst 0, 1) := by decide +kernel
theorem dX6_bent_160 : decode cX6_bent 160 = .ok (.invokevirtual 270, 3) := by decide +kernel
theorem dX6_bent_163 : decode cX6_bent 163 = .ok (.ireturn, 1) := by decide +kernel
theorem dX6_areAlike_0 : decode cX6_areAlike 0 = .ok (.aload_n 0, 1) := by decide +kernel
theorem dX6_areAlike_1 : decode cX6_areAlike 1 = .ok (.iconst 0, 1) := by decide +kernel
theorem dX6_areAlike_2 : decode cX6_areAlike 2 = .ok (.invokevirtual 282, 3) := by decide +kernel
theorem dX6_areAlike_5 : decode cX6_areAlike 5 = .ok (.istore_n 3, 1) := by decide +kernel
theorem dX6_areAlike_6 : decode cX6_areAlike 6 = .ok (.aload_n 0, 1) := by decide +kernel
theorem dX6_areAlike_7 : decode cX6_areAlike 7 = .ok (.iload_n 1, 1) := by decide +kernel
theorem dX6_areAlike_8 : decode cX6_areAlike 8 = .ok (.iconst 0, 1) := by decide +kernel
theorem dX6_areAlike_9 : decode cX6_areAlike 9 = .ok (.invokevirtual 331, 3) := by decide +kernel
theorem dX6_areAlike_12 : decode cX6_areAlike 12 = .ok (.aload_n 0, 1) := by decide +kernel
theorem dX6_areAlike_13 : decode cX6_areAlike 13 = .ok (.iload_n 2, 1) := by decide +kernel
theorem dX6_areAlike_14 : decode cX6_areAlike 14 = .ok (.iconst 0, 1) := by decide +kernel
theorem dX6_areAlike_15 : decode cX6_areAlike 15 = .ok (.invokevirtual 331, 3) := by decide +kernel
theorem dX6_areAlike_18 : decode cX6_areAlike 18 = .ok (.lsub, 1) := by decide +kernel
theorem dX6_areAlike_19 : decode cX6_areAlike 19 = .ok (.lstore 4, 2) := by decide +kernel
theorem dX6_areAlike_21 : decode cX6_areAlike 21 = .ok (.aload_n 0, 1) := by decide +kernel
theorem dX6_areAlike_22 : decode cX6_areAlike 22 = .ok (.iload_n 1, 1) := by decide +kernel
theorem dX6_areAlike_23 : decode cX6_areAlike 23 = .ok (.iload_n 3, 1) := by decide +kernel
theorem dX6_areAlike_24 : decode cX6_areAlike 24 = .ok (.invokevirtual 331, 3) := by decide +kernel
theorem dX6_areAlike_27 : decode cX6_areAlike 27 = .ok (.aload_n 0, 1) := by decide +kernel
theorem dX6_areAlike_28 : decode cX6_areAlike 28 = .ok (.iload_n 2, 1) := by decide +kernel
theorem dX6_areAlike_29 : decode cX6_areAlike 29 = .ok (.iload_n 3, 1) := by decide +kernel
theorem dX6_areAlike_30 : decode cX6_areAlike 30 = .ok (.invokevirtual 331, 3) := by decide +kernel
theorem dX6_areAlike_33 : decode cX6_areAlike 33 = .ok (.lsub, 1) := by decide +kernel
theorem dX6_areAlike_34 : decode cX6_areAlike 34 = .ok (.lstore 6, 2) := by decide +kernel
theorem dX6_areAlike_36 : decode cX6_areAlike 36 = .ok (.lload 4, 2) := by decide +kernel
theorem dX6_areAlike_38 : decode cX6_areAlike 38 = .ok (.aload_n 0, 1) := by decide +kernel
theorem dX6_areAlike_39 : decode cX6_areAlike 39 = .ok (.getfield 44, 3) := by decide +kernel
theorem dX6_areAlike_42 : decode cX6_areAlike 42 = .ok (.iload_n 3, 1) := by decide +kernel
theorem dX6_areAlike_43 : decode cX6_areAlike 43 = .ok (.iaload, 1) := by decide +kernel
theorem dX6_areAlike_44 : decode cX6_areAlike 44 = .ok (.i2l, 1) := by decide +kernel
theorem dX6_areAlike_45 : decode cX6_areAlike 45 = .ok (.lmul, 1) := by decide +kernel
theorem dX6_areAlike_46 : decode cX6_areAlike 46 = .ok (.lload 6, 2) := by decide +kernel
theorem dX6_areAlike_48 : decode cX6_areAlike 48 = .ok (.aload_n 0, 1) := by decide +kernel
theorem dX6_areAlike_49 : decode cX6_areAlike 49 = .ok (.getfield 44, 3) := by decide +kernel
theorem dX6_areAlike_52 : decode cX6_areAlike 52 = .ok (.iconst 0, 1) := by decide +kernel
theorem dX6_areAlike_53 : decode cX6_areAlike 53 = .ok (.iaload, 1) := by decide +kernel
theorem dX6_areAlike_54 : decode cX6_areAlike 54 = .ok (.i2l, 1) := by decide +kernel
theorem dX6_areAlike_55 : decode cX6_areAlike 55 = .ok (.lmul, 1) := by decide +kernel
theorem dX6_areAlike_56 : decode cX6_areAlike 56 = .ok (.lsub, 1) := by decide +kernel
theorem dX6_areAlike_57 : decode cX6_areAlike 57 = .ok (.lstore 8, 2) := by decide +kernel
theorem dX6_areAlike_59 : decode cX6_areAlike 59 = .ok (.lload 6, 2) := by decide +kernel
theorem dX6_areAlike_61 : decode cX6_areAlike 61 = .ok (.aload_n 0, 1) := by decide +kernel
theorem dX6_areAlike_62 : decode cX6_areAlike 62 = .ok (.getfield 41, 3) := by decide +kernel
theorem dX6_areAlike_65 : decode cX6_areAlike 65 = .ok (.iconst 0, 1) := by decide +kernel
theorem dX6_areAlike_66 : decode cX6_areAlike 66 = .ok (.iaload, 1) := by decide +kernel
theorem dX6_areAlike_67 : decode cX6_areAlike 67 = .ok (.i2l, 1) := by decide +kernel
theorem dX6_areAlike_68 : decode cX6_areAlike 68 = .ok (.lmul, 1) := by decide +kernel
theorem dX6_areAlike_69 : decode cX6_areAlike 69 = .ok (.lload 4, 2) := by decide +kernel
theorem dX6_areAlike_71 : decode cX6_areAlike 71 = .ok (.aload_n 0, 1) := by decide +kernel
theorem dX6_areAlike_72 : decode cX6_areAlike 72 = .ok (.getfield 41, 3) := by decide +kernel
theorem dX6_areAlike_75 : decode cX6_areAlike 75 = .ok (.iload_n 3, 1) := by decide +kernel
theorem dX6_areAlike_76 : decode cX6_areAlike 76 = .ok (.iaload, 1) := by decide +kernel
theorem dX6_areAlike_77 : decode cX6_areAlike 77 = .ok (.i2l, 1) := by decide +kernel
theorem dX6_areAlike_78 : decode cX6_areAlike 78 = .ok (.lmul, 1) := by decide +kernel
theorem dX6_areAlike_79 : decode cX6_areAlike 79 = .ok (.lsub, 1) := by decide +kernel
theorem dX6_areAlike_80 : decode cX6_areAlike 80 = .ok (.lstore 10, 2) := by decide +kernel
theorem dX6_areAlike_82 : decode cX6_areAlike 82 = .ok (.lload 8, 2) := by decide +kernel
theorem dX6_areAlike_84 : decode cX6_areAlike 84 = .ok (.aload_n 0, 1) := by decide +kernel
theorem dX6_areAlike_85 : decode cX6_areAlike 85 = .ok (.iconst 0, 1) := by decide +kernel
theorem dX6_areAlike_86 : decode cX6_areAlike 86 = .ok (.invokevirtual 288, 3) := by decide +kernel
theorem dX6_areAlike_89 : decode cX6_areAlike 89 = .ok (.i2l, 1) := by decide +kernel
theorem dX6_areAlike_90 : decode cX6_areAlike 90 = .ok (.lrem, 1) := by decide +kernel
theorem dX6_areAlike_91 : decode cX6_areAlike 91 = .ok (.lconst 0, 1) := by decide +kernel
theorem dX6_areAlike_92 : decode cX6_areAlike 92 = .ok (.lcmp, 1) := by decide +kernel
theorem dX6_areAlike_93 : decode cX6_areAlike 93 = .ok (.ifCond .ne 17, 3) := by decide +kernel
theorem dX6_areAlike_96 : decode cX6_areAlike 96 = .ok (.lload 10, 2) := by decide +kernel
theorem dX6_areAlike_98 : decode cX6_areAlike 98 = .ok (.aload_n 0, 1) := by decide +kernel
theorem dX6_areAlike_99 : decode cX6_areAlike 99 = .ok (.iconst 0, 1) := by decide +kernel
theorem dX6_areAlike_100 : decode cX6_areAlike 100 = .ok (.invokevirtual 288, 3) := by decide +kernel
theorem dX6_areAlike_103 : decode cX6_areAlike 103 = .ok (.i2l, 1) := by decide +kernel
theorem dX6_areAlike_104 : decode cX6_areAlike 104 = .ok (.lrem, 1) := by decide +kernel
theorem dX6_areAlike_105 : decode cX6_areAlike 105 = .ok (.lconst 0, 1) := by decide +kernel
theorem dX6_areAlike_106 : decode cX6_areAlike 106 = .ok (.lcmp, 1) := by decide +kernel
theorem dX6_areAlike_107 : decode cX6_areAlike 107 = .ok (.ifCond .eq 5, 3) := by decide +kernel
theorem dX6_areAlike_110 : decode cX6_areAlike 110 = .ok (.iconst 0, 1) := by decide +kernel
theorem dX6_areAlike_111 : decode cX6_areAlike 111 = .ok (.ireturn, 1) := by decide +kernel
theorem dX6_areAlike_112 : decode cX6_areAlike 112 = .ok (.lload 8, 2) := by decide +kernel
theorem dX6_areAlike_114 : decode cX6_areAlike 114 = .ok (.aload_n 0, 1) := by decide +kernel
theorem dX6_areAlike_115 : decode cX6_areAlike 115 = .ok (.iconst 0, 1) := by decide +kernel
theorem dX6_areAlike_116 : decode cX6_areAlike 116 = .ok (.invokevirtual 288, 3) := by decide +kernel
theorem dX6_areAlike_119 : decode cX6_areAlike 119 = .ok (.i2l, 1) := by decide +kernel
theorem dX6_areAlike_120 : decode cX6_areAlike 120 = .ok (.ldiv, 1) := by decide +kernel
theorem dX6_areAlike_121 : decode cX6_areAlike 121 = .ok (.lstore 8, 2) := by decide +kernel
theorem dX6_areAlike_123 : decode cX6_areAlike 123 = .ok (.lload 10, 2) := by decide +kernel
theorem dX6_areAlike_125 : decode cX6_areAlike 125 = .ok (.aload_n 0, 1) := by decide +kernel
theorem dX6_areAlike_126 : decode cX6_areAlike 126 = .ok (.iconst 0, 1) := by decide +kernel
theorem dX6_areAlike_127 : decode cX6_areAlike 127 = .ok (.invokevirtual 288, 3) := by decide +kernel
theorem dX6_areAlike_130 : decode cX6_areAlike 130 = .ok (.i2l, 1) := by decide +kernel
theorem dX6_areAlike_131 : decode cX6_areAlike 131 = .ok (.ldiv, 1) := by decide +kernel
theorem dX6_areAlike_132 : decode cX6_areAlike 132 = .ok (.lstore 10, 2) := by decide +kernel
theorem dX6_areAlike_134 : decode cX6_areAlike 134 = .ok (.iconst 0, 1) := by decide +kernel
theorem dX6_areAlike_135 : decode cX6_areAlike 135 = .ok (.istore 12, 2) := by decide +kernel
theorem dX6_areAlike_137 : decode cX6_areAlike 137 = .ok (.iload 12, 2) := by decide +kernel
theorem dX6_areAlike_139 : decode cX6_areAlike 139 = .ok (.aload_n 0, 1) := by decide +kernel
theorem dX6_areAlike_140 : decode cX6_areAlike 140 = .ok (.getfield 255, 3) := by decide +kernel
theorem dX6_areAlike_143 : decode cX6_areAlike 143 = .ok (.if_icmp .ge 53, 3) := by decide +kernel
theorem dX6_areAlike_146 : decode cX6_areAlike 146 = .ok (.aload_n 0, 1) := by decide +kernel
theorem dX6_areAlike_147 : decode cX6_areAlike 147 = .ok (.iload_n 1, 1) := by decide +kernel
theorem dX6_areAlike_148 : decode cX6_areAlike 148 = .ok (.iload 12, 2) := by decide +kernel
theorem dX6_areAlike_150 : decode cX6_areAlike 150 = .ok (.invokevirtual 331, 3) := by decide +kernel
theorem dX6_areAlike_153 : decode cX6_areAlike 153 = .ok (.aload_n 0, 1) := by decide +kernel
theorem dX6_areAlike_154 : decode cX6_areAlike 154 = .ok (.iload_n 2, 1) := by decide +kernel
theorem dX6_areAlike_155 : decode cX6_areAlike 155 = .ok (.iload 12, 2) := by decide +kernel
theorem dX6_areAlike_157 : decode cX6_areAlike 157 = .ok (.invokevirtual 331, 3) := by decide +kernel
theorem dX6_areAlike_160 : decode cX6_areAlike 160 = .ok (.lsub, 1) := by decide +kernel
theorem dX6_areAlike_161 : decode cX6_areAlike 161 = .ok (.lload 8, 2) := by decide +kernel
theorem dX6_areAlike_163 : decode cX6_areAlike 163 = .ok (.aload_n 0, 1) := by decide +kernel
theorem dX6_areAlike_164 : decode cX6_areAlike 164 = .ok (.getfield 41, 3) := by decide +kernel
theorem dX6_areAlike_167 : decode cX6_areAlike 167 = .ok (.iload 12, 2) := by decide +kernel
theorem dX6_areAlike_169 : decode cX6_areAlike 169 = .ok (.iaload, 1) := by decide +kernel
theorem dX6_areAlike_170 : decode cX6_areAlike 170 = .ok (.i2l, 1) := by decide +kernel
theorem dX6_areAlike_171 : decode cX6_areAlike 171 = .ok (.lmul, 1) := by decide +kernel
theorem dX6_areAlike_172 : decode cX6_areAlike 172 = .ok (.lload 10, 2) := by decide +kernel
theorem dX6_areAlike_174 : decode cX6_areAlike 174 = .ok (.aload_n 0, 1) := by decide +kernel
theorem dX6_areAlike_175 : decode cX6_areAlike 175 = .ok (.getfield 44, 3) := by decide +kernel
theorem dX6_areAlike_178 : decode cX6_areAlike 178 = .ok (.iload 12, 2) := by decide +kernel
theorem dX6_areAlike_180 : decode cX6_areAlike 180 = .ok (.iaload, 1) := by decide +kernel
theorem dX6_areAlike_181 : decode cX6_areAlike 181 = .ok (.i2l, 1) := by decide +kernel
theorem dX6_areAlike_182 : decode cX6_areAlike 182 = .ok (.lmul, 1) := by decide +kernel
theorem dX6_areAlike_183 : decode cX6_areAlike 183 = .ok (.ladd, 1) := by decide +kernel
theorem dX6_areAlike_184 : decode cX6_areAlike 184 = .ok (.lcmp, 1) := by decide +kernel
theorem dX6_areAlike_185 : decode cX6_areAlike 185 = .ok (.ifCond .eq 5, 3) := by decide +kernel
theorem dX6_areAlike_188 : decode cX6_areAlike 188 = .ok (.iconst 0, 1) := by decide +kernel
theorem dX6_areAlike_189 : decode cX6_areAlike 189 = .ok (.ireturn, 1) := by decide +kernel
theorem dX6_areAlike_190 : decode cX6_areAlike 190 = .ok (.iinc 12 1, 3) := by decide +kernel
theorem dX6_areAlike_193 : decode cX6_areAlike 193 = .ok (.goto (-56), 3) := by decide +kernel
theorem dX6_areAlike_196 : decode cX6_areAlike 196 = .ok (.iconst 1, 1) := by decide +kernel
theorem dX6_areAlike_197 : decode cX6_areAlike 197 = .ok (.ireturn, 1) := by decide +kernel
theorem dX6_alike_0 : decode cX6_alike 0 = .ok (.aload_n 0, 1) := by decide +kernel
theorem dX6_alike_1 : decode cX6_alike 1 = .ok (.iconst 0, 1) := by decide +kernel
theorem dX6_alike_2 : decode cX6_alike 2 = .ok (.putfield 77, 3) := by decide +kernel
theorem dX6_alike_5 : decode cX6_alike 5 = .ok (.aload_n 0, 1) := by decide +kernel
theorem dX6_alike_6 : decode cX6_alike 6 = .ok (.iload_n 1, 1) := by decide +kernel
theorem dX6_alike_7 : decode cX6_alike 7 = .ok (.invokevirtual 328, 3) := by decide +kernel
theorem dX6_alike_10 : decode cX6_alike 10 = .ok (.ifCond .eq 32, 3) := by decide +kernel
theorem dX6_alike_13 : decode cX6_alike 13 = .ok (.aload_n 0, 1) := by decide +kernel
theorem dX6_alike_14 : decode cX6_alike 14 = .ok (.iload_n 2, 1) := by decide +kernel
theorem dX6_alike_15 : decode cX6_alike 15 = .ok (.invokevirtual 328, 3) := by decide +kernel
theorem dX6_alike_18 : decode cX6_alike 18 = .ok (.ifCond .eq 24, 3) := by decide +kernel
theorem dX6_alike_21 : decode cX6_alike 21 = .ok (.aload_n 0, 1) := by decide +kernel
theorem dX6_alike_22 : decode cX6_alike 22 = .ok (.aload_n 0, 1) := by decide +kernel
theorem dX6_alike_23 : decode cX6_alike 23 = .ok (.iload_n 1, 1) := by decide +kernel
theorem dX6_alike_24 : decode cX6_alike 24 = .ok (.iload_n 2, 1) := by decide +kernel
theorem dX6_alike_25 : decode cX6_alike 25 = .ok (.invokevirtual 350, 3) := by decide +kernel
theorem dX6_alike_28 : decode cX6_alike 28 = .ok (.ifCond .eq 7, 3) := by decide +kernel
theorem dX6_alike_31 : decode cX6_alike 31 = .ok (.iconst 1, 1) := by decide +kernel
theorem dX6_alike_32 : decode cX6_alike 32 = .ok (.goto 4, 3) := by decide +kernel
theorem dX6_alike_35 : decode cX6_alike 35 = .ok (.iconst 0, 1) := by decide +kernel
theorem dX6_alike_36 : decode cX6_alike 36 = .ok (.invokevirtual 270, 3) := by decide +kernel
theorem dX6_alike_39 : decode cX6_alike 39 = .ok (.goto 8, 3) := by decide +kernel
theorem dX6_alike_42 : decode cX6_alike 42 = .ok (.aload_n 0, 1) := by decide +kernel
theorem dX6_alike_43 : decode cX6_alike 43 = .ok (.iconst 1, 1) := by decide +kernel
theorem dX6_alike_44 : decode cX6_alike 44 = .ok (.invokevirtual 267, 3) := by decide +kernel
theorem dX6_alike_47 : decode cX6_alike 47 = .ok (.ireturn, 1) := by decide +kernel
theorem dX6_itself_0 : decode cX6_itself 0 = .ok (.aload_n 0, 1) := by decide +kernel
theorem dX6_itself_1 : decode cX6_itself 1 = .ok (.aload_n 0, 1) := by decide +kernel
theorem dX6_itself_2 : decode cX6_itself 2 = .ok (.iload_n 1, 1) := by decide +kernel
theorem dX6_itself_3 : decode cX6_itself 3 = .ok (.invokevirtual 293, 3) := by decide +kernel
theorem dX6_itself_6 : decode cX6_itself 6 = .ok (.invokevirtual 288, 3) := by decide +kernel
theorem dX6_itself_9 : decode cX6_itself 9 = .ok (.i2l, 1) := by decide +kernel
theorem dX6_itself_10 : decode cX6_itself 10 = .ok (.aload_n 0, 1) := by decide +kernel
theorem dX6_itself_11 : decode cX6_itself 11 = .ok (.iload_n 1, 1) := by decide +kernel
theorem dX6_itself_12 : decode cX6_itself 12 = .ok (.invokevirtual 288, 3) := by decide +kernel
theorem dX6_itself_15 : decode cX6_itself 15 = .ok (.i2l, 1) := by decide +kernel
theorem dX6_itself_16 : decode cX6_itself 16 = .ok (.lmul, 1) := by decide +kernel
theorem dX6_itself_17 : decode cX6_itself 17 = .ok (.lstore 4, 2) := by decide +kernel
theorem dX6_itself_19 : decode cX6_itself 19 = .ok (.lload_n 2, 1) := by decide +kernel
theorem dX6_itself_20 : decode cX6_itself 20 = .ok (.aload_n 0, 1) := by decide +kernel
theorem dX6_itself_21 : decode cX6_itself 21 = .ok (.aload_n 0, 1) := by decide +kernel
theorem dX6_itself_22 : decode cX6_itself 22 = .ok (.iload_n 1, 1) := by decide +kernel
theorem dX6_itself_23 : decode cX6_itself 23 = .ok (.invokevirtual 293, 3) := by decide +kernel
theorem dX6_itself_26 : decode cX6_itself 26 = .ok (.aload_n 0, 1) := by decide +kernel
theorem dX6_itself_27 : decode cX6_itself 27 = .ok (.iload_n 1, 1) := by decide +kernel
theorem dX6_itself_28 : decode cX6_itself 28 = .ok (.invokevirtual 282, 3) := by decide +kernel
theorem dX6_itself_31 : decode cX6_itself 31 = .ok (.invokevirtual 285, 3) := by decide +kernel
theorem dX6_itself_34 : decode cX6_itself 34 = .ok (.i2l, 1) := by decide +kernel
theorem dX6_itself_35 : decode cX6_itself 35 = .ok (.lmul, 1) := by decide +kernel
theorem dX6_itself_36 : decode cX6_itself 36 = .ok (.lload 4, 2) := by decide +kernel
theorem dX6_itself_38 : decode cX6_itself 38 = .ok (.ldiv, 1) := by decide +kernel
theorem dX6_itself_39 : decode cX6_itself 39 = .ok (.lneg, 1) := by decide +kernel
theorem dX6_itself_40 : decode cX6_itself 40 = .ok (.lreturn, 1) := by decide +kernel
theorem dX6_raysMeet_0 : decode cX6_raysMeet 0 = .ok (.iload_n 1, 1) := by decide +kernel
theorem dX6_raysMeet_1 : decode cX6_raysMeet 1 = .ok (.iload_n 2, 1) := by decide +kernel
theorem dX6_raysMeet_2 : decode cX6_raysMeet 2 = .ok (.if_icmp .ne 10, 3) := by decide +kernel
theorem dX6_raysMeet_5 : decode cX6_raysMeet 5 = .ok (.aload_n 0, 1) := by decide +kernel
theorem dX6_raysMeet_6 : decode cX6_raysMeet 6 = .ok (.iload_n 1, 1) := by decide +kernel
theorem dX6_raysMeet_7 : decode cX6_raysMeet 7 = .ok (.lload_n 3, 1) := by decide +kernel
theorem dX6_raysMeet_8 : decode cX6_raysMeet 8 = .ok (.invokevirtual 353, 3) := by decide +kernel
theorem dX6_raysMeet_11 : decode cX6_raysMeet 11 = .ok (.lreturn, 1) := by decide +kernel
theorem dX6_raysMeet_12 : decode cX6_raysMeet 12 = .ok (.aload_n 0, 1) := by decide +kernel
theorem dX6_raysMeet_13 : decode cX6_raysMeet 13 = .ok (.iload_n 1, 1) := by decide +kernel
theorem dX6_raysMeet_14 : decode cX6_raysMeet 14 = .ok (.invokevirtual 282, 3) := by decide +kernel
theorem dX6_raysMeet_17 : decode cX6_raysMeet 17 = .ok (.iload_n 2, 1) := by decide +kernel
theorem dX6_raysMeet_18 : decode cX6_raysMeet 18 = .ok (.if_icmp .ne 14, 3) := by decide +kernel
theorem dX6_raysMeet_21 : decode cX6_raysMeet 21 = .ok (.lload_n 3, 1) := by decide +kernel
theorem dX6_raysMeet_22 : decode cX6_raysMeet 22 = .ok (.aload_n 0, 1) := by decide +kernel
theorem dX6_raysMeet_23 : decode cX6_raysMeet 23 = .ok (.iload_n 1, 1) := by decide +kernel
theorem dX6_raysMeet_24 : decode cX6_raysMeet 24 = .ok (.invokevirtual 288, 3) := by decide +kernel
theorem dX6_raysMeet_27 : decode cX6_raysMeet 27 = .ok (.i2l, 1) := by decide +kernel
theorem dX6_raysMeet_28 : decode cX6_raysMeet 28 = .ok (.ldiv, 1) := by decide +kernel
theorem dX6_raysMeet_29 : decode cX6_raysMeet 29 = .ok (.goto 24, 3) := by decide +kernel
theorem dX6_raysMeet_32 : decode cX6_raysMeet 32 = .ok (.aload_n 0, 1) := by decide +kernel
theorem dX6_raysMeet_33 : decode cX6_raysMeet 33 = .ok (.iload_n 2, 1) := by decide +kernel
theorem dX6_raysMeet_34 : decode cX6_raysMeet 34 = .ok (.invokevirtual 282, 3) := by decide +kernel
theorem dX6_raysMeet_37 : decode cX6_raysMeet 37 = .ok (.iload_n 1, 1) := by decide +kernel
theorem dX6_raysMeet_38 : decode cX6_raysMeet 38 = .ok (.if_icmp .ne 14, 3) := by decide +kernel
theorem dX6_raysMeet_41 : decode cX6_raysMeet 41 = .ok (.lload_n 3, 1) := by decide +kernel
theorem dX6_raysMeet_42 : decode cX6_raysMeet 42 = .ok (.aload_n 0, 1) := by decide +kernel
theorem dX6_raysMeet_43 : decode cX6_raysMeet 43 = .ok (.iload_n 2, 1) := by decide +kernel
theorem dX6_raysMeet_44 : decode cX6_raysMeet 44 = .ok (.invokevirtual 288, 3) := by decide +kernel
theorem dX6_raysMeet_47 : decode cX6_raysMeet 47 = .ok (.i2l, 1) := by decide +kernel
theorem dX6_raysMeet_48 : decode cX6_raysMeet 48 = .ok (.ldiv, 1) := by decide +kernel
theorem dX6_raysMeet_49 : decode cX6_raysMeet 49 = .ok (.goto 4, 3) := by decide +kernel
theorem dX6_raysMeet_52 : decode cX6_raysMeet 52 = .ok (.lconst 0, 1) := by decide +kernel
theorem dX6_raysMeet_53 : decode cX6_raysMeet 53 = .ok (.lreturn, 1) := by decide +kernel
theorem dX6_touchesBy_0 : decode cX6_touchesBy 0 = .ok (.lconst 0, 1) := by decide +kernel
theorem dX6_touchesBy_1 : decode cX6_touchesBy 1 = .ok (.lstore 5, 2) := by decide +kernel
theorem dX6_touchesBy_3 : decode cX6_touchesBy 3 = .ok (.iconst 0, 1) := by decide +kernel
theorem dX6_touchesBy_4 : decode cX6_touchesBy 4 = .ok (.istore 7, 2) := by decide +kernel
theorem dX6_touchesBy_6 : decode cX6_touchesBy 6 = .ok (.iload 7, 2) := by decide +kernel
theorem dX6_touchesBy_8 : decode cX6_touchesBy 8 = .ok (.aload_n 0, 1) := by decide +kernel
theorem dX6_touchesBy_9 : decode cX6_touchesBy 9 = .ok (.getfield 255, 3) := by decide +kernel
theorem dX6_touchesBy_12 : decode cX6_touchesBy 12 = .ok (.if_icmp .ge 30, 3) := by decide +kernel
theorem dX6_touchesBy_15 : decode cX6_touchesBy 15 = .ok (.lload 5, 2) := by decide +kernel
theorem dX6_touchesBy_17 : decode cX6_touchesBy 17 = .ok (.aload_n 0, 1) := by decide +kernel
theorem dX6_touchesBy_18 : decode cX6_touchesBy 18 = .ok (.iload_n 1, 1) := by decide +kernel
theorem dX6_touchesBy_19 : decode cX6_touchesBy 19 = .ok (.iload 7, 2) := by decide +kernel
theorem dX6_touchesBy_21 : decode cX6_touchesBy 21 = .ok (.invokevirtual 331, 3) := by decide +kernel
theorem dX6_touchesBy_24 : decode cX6_touchesBy 24 = .ok (.aload_n 0, 1) := by decide +kernel
theorem dX6_touchesBy_25 : decode cX6_touchesBy 25 = .ok (.iload 7, 2) := by decide +kernel
theorem dX6_touchesBy_27 : decode cX6_touchesBy 27 = .ok (.iload_n 2, 1) := by decide +kernel
theorem dX6_touchesBy_28 : decode cX6_touchesBy 28 = .ok (.lload_n 3, 1) := by decide +kernel
theorem dX6_touchesBy_29 : decode cX6_touchesBy 29 = .ok (.invokevirtual 357, 3) := by decide +kernel
theorem dX6_touchesBy_32 : decode cX6_touchesBy 32 = .ok (.lmul, 1) := by decide +kernel
theorem dX6_touchesBy_33 : decode cX6_touchesBy 33 = .ok (.ladd, 1) := by decide +kernel
theorem dX6_touchesBy_34 : decode cX6_touchesBy 34 = .ok (.lstore 5, 2) := by decide +kernel
theorem dX6_touchesBy_36 : decode cX6_touchesBy 36 = .ok (.iinc 7 1, 3) := by decide +kernel
theorem dX6_touchesBy_39 : decode cX6_touchesBy 39 = .ok (.goto (-33), 3) := by decide +kernel
theorem dX6_touchesBy_42 : decode cX6_touchesBy 42 = .ok (.lload 5, 2) := by decide +kernel
theorem dX6_touchesBy_44 : decode cX6_touchesBy 44 = .ok (.lreturn, 1) := by decide +kernel
theorem dX6_meets_0 : decode cX6_meets 0 = .ok (.aload_n 0, 1) := by decide +kernel
theorem dX6_meets_1 : decode cX6_meets 1 = .ok (.iconst 0, 1) := by decide +kernel
theorem dX6_meets_2 : decode cX6_meets 2 = .ok (.putfield 77, 3) := by decide +kernel
theorem dX6_meets_5 : decode cX6_meets 5 = .ok (.aload_n 0, 1) := by decide +kernel
theorem dX6_meets_6 : decode cX6_meets 6 = .ok (.iload_n 1, 1) := by decide +kernel
theorem dX6_meets_7 : decode cX6_meets 7 = .ok (.invokevirtual 328, 3) := by decide +kernel
theorem dX6_meets_10 : decode cX6_meets 10 = .ok (.ifCond .eq 11, 3) := by decide +kernel
theorem dX6_meets_13 : decode cX6_meets 13 = .ok (.aload_n 0, 1) := by decide +kernel
theorem dX6_meets_14 : decode cX6_meets 14 = .ok (.iload_n 2, 1) := by decide +kernel
theorem dX6_meets_15 : decode cX6_meets 15 = .ok (.invokevirtual 328, 3) := by decide +kernel
theorem dX6_meets_18 : decode cX6_meets 18 = .ok (.ifCond .ne 9, 3) := by decide +kernel
theorem dX6_meets_21 : decode cX6_meets 21 = .ok (.aload_n 0, 1) := by decide +kernel
theorem dX6_meets_22 : decode cX6_meets 22 = .ok (.iconst 1, 1) := by decide +kernel
theorem dX6_meets_23 : decode cX6_meets 23 = .ok (.invokevirtual 311, 3) := by decide +kernel
theorem dX6_meets_26 : decode cX6_meets 26 = .ok (.lreturn, 1) := by decide +kernel
theorem dX6_meets_27 : decode cX6_meets 27 = .ok (.aload_n 0, 1) := by decide +kernel
theorem dX6_meets_28 : decode cX6_meets 28 = .ok (.invokevirtual 302, 3) := by decide +kernel
theorem dX6_meets_31 : decode cX6_meets 31 = .ok (.lstore_n 3, 1) := by decide +kernel
theorem dX6_meets_32 : decode cX6_meets 32 = .ok (.lload_n 3, 1) := by decide +kernel
theorem dX6_meets_33 : decode cX6_meets 33 = .ok (.lconst 0, 1) := by decide +kernel
theorem dX6_meets_34 : decode cX6_meets 34 = .ok (.lcmp, 1) := by decide +kernel
theorem dX6_meets_35 : decode cX6_meets 35 = .ok (.ifCond .ne 9, 3) := by decide +kernel
theorem dX6_meets_38 : decode cX6_meets 38 = .ok (.aload_n 0, 1) := by decide +kernel
theorem dX6_meets_39 : decode cX6_meets 39 = .ok (.iconst 3, 1) := by decide +kernel
theorem dX6_meets_40 : decode cX6_meets 40 = .ok (.invokevirtual 311, 3) := by decide +kernel
theorem dX6_meets_43 : decode cX6_meets 43 = .ok (.lreturn, 1) := by decide +kernel
theorem dX6_meets_44 : decode cX6_meets 44 = .ok (.lconst 0, 1) := by decide +kernel
theorem dX6_meets_45 : decode cX6_meets 45 = .ok (.lstore 5, 2) := by decide +kernel
theorem dX6_meets_47 : decode cX6_meets 47 = .ok (.iconst 0, 1) := by decide +kernel
theorem dX6_meets_48 : decode cX6_meets 48 = .ok (.istore 7, 2) := by decide +kernel
theorem dX6_meets_50 : decode cX6_meets 50 = .ok (.iload 7, 2) := by decide +kernel
theorem dX6_meets_52 : decode cX6_meets 52 = .ok (.aload_n 0, 1) := by decide +kernel
theorem dX6_meets_53 : decode cX6_meets 53 = .ok (.getfield 255, 3) := by decide +kernel
theorem dX6_meets_56 : decode cX6_meets 56 = .ok (.if_icmp .ge 30, 3) := by decide +kernel
theorem dX6_meets_59 : decode cX6_meets 59 = .ok (.lload 5, 2) := by decide +kernel
theorem dX6_meets_61 : decode cX6_meets 61 = .ok (.aload_n 0, 1) := by decide +kernel
theorem dX6_meets_62 : decode cX6_meets 62 = .ok (.iload_n 2, 1) := by decide +kernel
theorem dX6_meets_63 : decode cX6_meets 63 = .ok (.iload 7, 2) := by decide +kernel
theorem dX6_meets_65 : decode cX6_meets 65 = .ok (.invokevirtual 331, 3) := by decide +kernel
theorem dX6_meets_68 : decode cX6_meets 68 = .ok (.aload_n 0, 1) := by decide +kernel
theorem dX6_meets_69 : decode cX6_meets 69 = .ok (.iload_n 1, 1) := by decide +kernel
theorem dX6_meets_70 : decode cX6_meets 70 = .ok (.iload 7, 2) := by decide +kernel
theorem dX6_meets_72 : decode cX6_meets 72 = .ok (.lload_n 3, 1) := by decide +kernel
theorem dX6_meets_73 : decode cX6_meets 73 = .ok (.invokevirtual 361, 3) := by decide +kernel
theorem dX6_meets_76 : decode cX6_meets 76 = .ok (.lmul, 1) := by decide +kernel
theorem dX6_meets_77 : decode cX6_meets 77 = .ok (.ladd, 1) := by decide +kernel
theorem dX6_meets_78 : decode cX6_meets 78 = .ok (.lstore 5, 2) := by decide +kernel
theorem dX6_meets_80 : decode cX6_meets 80 = .ok (.iinc 7 1, 3) := by decide +kernel
theorem dX6_meets_83 : decode cX6_meets 83 = .ok (.goto (-33), 3) := by decide +kernel
theorem dX6_meets_86 : decode cX6_meets 86 = .ok (.aload_n 0, 1) := by decide +kernel
theorem dX6_meets_87 : decode cX6_meets 87 = .ok (.lload 5, 2) := by decide +kernel
theorem dX6_meets_89 : decode cX6_meets 89 = .ok (.invokevirtual 315, 3) := by decide +kernel
theorem dX6_meets_92 : decode cX6_meets 92 = .ok (.lreturn, 1) := by decide +kernel
theorem dX6_touches_0 : decode cX6_touches 0 = .ok (.aload_n 0, 1) := by decide +kernel
theorem dX6_touches_1 : decode cX6_touches 1 = .ok (.iconst 0, 1) := by decide +kernel
theorem dX6_touches_2 : decode cX6_touches 2 = .ok (.putfield 77, 3) := by decide +kernel
theorem dX6_touches_5 : decode cX6_touches 5 = .ok (.aload_n 0, 1) := by decide +kernel
theorem dX6_touches_6 : decode cX6_touches 6 = .ok (.iload_n 1, 1) := by decide +kernel
theorem dX6_touches_7 : decode cX6_touches 7 = .ok (.invokevirtual 328, 3) := by decide +kernel
theorem dX6_touches_10 : decode cX6_touches 10 = .ok (.ifCond .eq 11, 3) := by decide +kernel
theorem dX6_touches_13 : decode cX6_touches 13 = .ok (.aload_n 0, 1) := by decide +kernel
theorem dX6_touches_14 : decode cX6_touches 14 = .ok (.iload_n 2, 1) := by decide +kernel
theorem dX6_touches_15 : decode cX6_touches 15 = .ok (.invokevirtual 308, 3) := by decide +kernel
theorem dX6_touches_18 : decode cX6_touches 18 = .ok (.ifCond .ne 9, 3) := by decide +kernel
theorem dX6_touches_21 : decode cX6_touches 21 = .ok (.aload_n 0, 1) := by decide +kernel
theorem dX6_touches_22 : decode cX6_touches 22 = .ok (.iconst 1, 1) := by decide +kernel
theorem dX6_touches_23 : decode cX6_touches 23 = .ok (.invokevirtual 311, 3) := by decide +kernel
theorem dX6_touches_26 : decode cX6_touches 26 = .ok (.lreturn, 1) := by decide +kernel
theorem dX6_touches_27 : decode cX6_touches 27 = .ok (.aload_n 0, 1) := by decide +kernel
theorem dX6_touches_28 : decode cX6_touches 28 = .ok (.invokevirtual 302, 3) := by decide +kernel
theorem dX6_touches_31 : decode cX6_touches 31 = .ok (.lstore_n 3, 1) := by decide +kernel
theorem dX6_touches_32 : decode cX6_touches 32 = .ok (.lload_n 3, 1) := by decide +kernel
theorem dX6_touches_33 : decode cX6_touches 33 = .ok (.lconst 0, 1) := by decide +kernel
theorem dX6_touches_34 : decode cX6_touches 34 = .ok (.lcmp, 1) := by decide +kernel
theorem dX6_touches_35 : decode cX6_touches 35 = .ok (.ifCond .ne 11, 3) := by decide +kernel
theorem dX6_touches_38 : decode cX6_touches 38 = .ok (.aload_n 0, 1) := by decide +kernel
theorem dX6_touches_39 : decode cX6_touches 39 = .ok (.iconst 3, 1) := by decide +kernel
theorem dX6_touches_40 : decode cX6_touches 40 = .ok (.invokevirtual 311, 3) := by decide +kernel
theorem dX6_touches_43 : decode cX6_touches 43 = .ok (.goto 14, 3) := by decide +kernel
theorem dX6_touches_46 : decode cX6_touches 46 = .ok (.aload_n 0, 1) := by decide +kernel
theorem dX6_touches_47 : decode cX6_touches 47 = .ok (.aload_n 0, 1) := by decide +kernel
theorem dX6_touches_48 : decode cX6_touches 48 = .ok (.iload_n 1, 1) := by decide +kernel
theorem dX6_touches_49 : decode cX6_touches 49 = .ok (.iload_n 2, 1) := by decide +kernel
theorem dX6_touches_50 : decode cX6_touches 50 = .ok (.lload_n 3, 1) := by decide +kernel
theorem dX6_touches_51 : decode cX6_touches 51 = .ok (.invokevirtual 361, 3) := by decide +kernel
theorem dX6_touches_54 : decode cX6_touches 54 = .ok (.invokevirtual 315, 3) := by decide +kernel
theorem dX6_touches_57 : decode cX6_touches 57 = .ok (.lreturn, 1) := by decide +kernel
theorem dX6_rays_0 : decode cX6_rays 0 = .ok (.aload_n 0, 1) := by decide +kernel
theorem dX6_rays_1 : decode cX6_rays 1 = .ok (.iconst 0, 1) := by decide +kernel
theorem dX6_rays_2 : decode cX6_rays 2 = .ok (.putfield 77, 3) := by decide +kernel
theorem dX6_rays_5 : decode cX6_rays 5 = .ok (.aload_n 0, 1) := by decide +kernel
theorem dX6_rays_6 : decode cX6_rays 6 = .ok (.iload_n 1, 1) := by decide +kernel
theorem dX6_rays_7 : decode cX6_rays 7 = .ok (.invokevirtual 308, 3) := by decide +kernel
theorem dX6_rays_10 : decode cX6_rays 10 = .ok (.ifCond .eq 11, 3) := by decide +kernel
theorem dX6_rays_13 : decode cX6_rays 13 = .ok (.aload_n 0, 1) := by decide +kernel
theorem dX6_rays_14 : decode cX6_rays 14 = .ok (.iload_n 2, 1) := by decide +kernel
theorem dX6_rays_15 : decode cX6_rays 15 = .ok (.invokevirtual 308, 3) := by decide +kernel
theorem dX6_rays_18 : decode cX6_rays 18 = .ok (.ifCond .ne 9, 3) := by decide +kernel
theorem dX6_rays_21 : decode cX6_rays 21 = .ok (.aload_n 0, 1) := by decide +kernel
theorem dX6_rays_22 : decode cX6_rays 22 = .ok (.iconst 1, 1) := by decide +kernel
theorem dX6_rays_23 : decode cX6_rays 23 = .ok (.invokevirtual 311, 3) := by decide +kernel
theorem dX6_rays_26 : decode cX6_rays 26 = .ok (.lreturn, 1) := by decide +kernel
theorem dX6_rays_27 : decode cX6_rays 27 = .ok (.aload_n 0, 1) := by decide +kernel
theorem dX6_rays_28 : decode cX6_rays 28 = .ok (.invokevirtual 302, 3) := by decide +kernel
theorem dX6_rays_31 : decode cX6_rays 31 = .ok (.lstore_n 3, 1) := by decide +kernel
theorem dX6_rays_32 : decode cX6_rays 32 = .ok (.lload_n 3, 1) := by decide +kernel
theorem dX6_rays_33 : decode cX6_rays 33 = .ok (.lconst 0, 1) := by decide +kernel
theorem dX6_rays_34 : decode cX6_rays 34 = .ok (.lcmp, 1) := by decide +kernel
theorem dX6_rays_35 : decode cX6_rays 35 = .ok (.ifCond .ne 11, 3) := by decide +kernel
theorem dX6_rays_38 : decode cX6_rays 38 = .ok (.aload_n 0, 1) := by decide +kernel
theorem dX6_rays_39 : decode cX6_rays 39 = .ok (.iconst 3, 1) := by decide +kernel
theorem dX6_rays_40 : decode cX6_rays 40 = .ok (.invokevirtual 311, 3) := by decide +kernel
theorem dX6_rays_43 : decode cX6_rays 43 = .ok (.goto 14, 3) := by decide +kernel
theorem dX6_rays_46 : decode cX6_rays 46 = .ok (.aload_n 0, 1) := by decide +kernel
theorem dX6_rays_47 : decode cX6_rays 47 = .ok (.aload_n 0, 1) := by decide +kernel
theorem dX6_rays_48 : decode cX6_rays 48 = .ok (.iload_n 1, 1) := by decide +kernel
theorem dX6_rays_49 : decode cX6_rays 49 = .ok (.iload_n 2, 1) := by decide +kernel
theorem dX6_rays_50 : decode cX6_rays 50 = .ok (.lload_n 3, 1) := by decide +kernel
theorem dX6_rays_51 : decode cX6_rays 51 = .ok (.invokevirtual 357, 3) := by decide +kernel
theorem dX6_rays_54 : decode cX6_rays 54 = .ok (.invokevirtual 315, 3) := by decide +kernel
theorem dX6_rays_57 : decode cX6_rays 57 = .ok (.lreturn, 1) := by decide +kernel
theorem dX6_leaves_0 : decode cX6_leaves 0 = .ok (.aload_n 0, 1) := by decide +kernel
theorem dX6_leaves_1 : decode cX6_leaves 1 = .ok (.ldc2_w 83, 3) := by decide +kernel
theorem dX6_leaves_4 : decode cX6_leaves 4 = .ok (.putfield 364, 3) := by decide +kernel
theorem dX6_leaves_7 : decode cX6_leaves 7 = .ok (.aload_n 0, 1) := by decide +kernel
theorem dX6_leaves_8 : decode cX6_leaves 8 = .ok (.ldc2_w 367, 3) := by decide +kernel
theorem dX6_leaves_11 : decode cX6_leaves 11 = .ok (.putfield 369, 3) := by decide +kernel
theorem dX6_leaves_14 : decode cX6_leaves 14 = .ok (.iconst 0, 1) := by decide +kernel
theorem dX6_leaves_15 : decode cX6_leaves 15 = .ok (.istore 6, 2) := by decide +kernel
theorem dX6_leaves_17 : decode cX6_leaves 17 = .ok (.iload 6, 2) := by decide +kernel
theorem dX6_leaves_19 : decode cX6_leaves 19 = .ok (.aload_n 0, 1) := by decide +kernel
theorem dX6_leaves_20 : decode cX6_leaves 20 = .ok (.getfield 255, 3) := by decide +kernel
theorem dX6_leaves_23 : decode cX6_leaves 23 = .ok (.if_icmp .ge 155, 3) := by decide +kernel
theorem dX6_leaves_26 : decode cX6_leaves 26 = .ok (.iload_n 3, 1) := by decide +kernel
theorem dX6_leaves_27 : decode cX6_leaves 27 = .ok (.i2l, 1) := by decide +kernel
theorem dX6_leaves_28 : decode cX6_leaves 28 = .ok (.iload_n 2, 1) := by decide +kernel
theorem dX6_leaves_29 : decode cX6_leaves 29 = .ok (.i2l, 1) := by decide +kernel
theorem dX6_leaves_30 : decode cX6_leaves 30 = .ok (.aload_n 0, 1) := by decide +kernel
theorem dX6_leaves_31 : decode cX6_leaves 31 = .ok (.iload_n 1, 1) := by decide +kernel
theorem dX6_leaves_32 : decode cX6_leaves 32 = .ok (.iload 6, 2) := by decide +kernel
theorem dX6_leaves_34 : decode cX6_leaves 34 = .ok (.invokevirtual 331, 3) := by decide +kernel
theorem dX6_leaves_37 : decode cX6_leaves 37 = .ok (.lmul, 1) := by decide +kernel
theorem dX6_leaves_38 : decode cX6_leaves 38 = .ok (.lsub, 1) := by decide +kernel
theorem dX6_leaves_39 : decode cX6_leaves 39 = .ok (.aload_n 0, 1) := by decide +kernel
theorem dX6_leaves_40 : decode cX6_leaves 40 = .ok (.getfield 41, 3) := by decide +kernel
theorem dX6_leaves_43 : decode cX6_leaves 43 = .ok (.iload 6, 2) := by decide +kernel
theorem dX6_leaves_45 : decode cX6_leaves 45 = .ok (.iaload, 1) := by decide +kernel
theorem dX6_leaves_46 : decode cX6_leaves 46 = .ok (.i2l, 1) := by decide +kernel
theorem dX6_leaves_47 : decode cX6_leaves 47 = .ok (.lload 4, 2) := by decide +kernel
theorem dX6_leaves_49 : decode cX6_leaves 49 = .ok (.lmul, 1) := by decide +kernel
theorem dX6_leaves_50 : decode cX6_leaves 50 = .ok (.lsub, 1) := by decide +kernel
theorem dX6_leaves_51 : decode cX6_leaves 51 = .ok (.lstore 7, 2) := by decide +kernel
theorem dX6_leaves_53 : decode cX6_leaves 53 = .ok (.aload_n 0, 1) := by decide +kernel
theorem dX6_leaves_54 : decode cX6_leaves 54 = .ok (.getfield 44, 3) := by decide +kernel
theorem dX6_leaves_57 : decode cX6_leaves 57 = .ok (.iload 6, 2) := by decide +kernel
theorem dX6_leaves_59 : decode cX6_leaves 59 = .ok (.iaload, 1) := by decide +kernel
theorem dX6_leaves_60 : decode cX6_leaves 60 = .ok (.ifCond .ne 12, 3) := by decide +kernel
theorem dX6_leaves_63 : decode cX6_leaves 63 = .ok (.lload 7, 2) := by decide +kernel
theorem dX6_leaves_65 : decode cX6_leaves 65 = .ok (.lconst 0, 1) := by decide +kernel
theorem dX6_leaves_66 : decode cX6_leaves 66 = .ok (.lcmp, 1) := by decide +kernel
theorem dX6_leaves_67 : decode cX6_leaves 67 = .ok (.ifCond .le 5, 3) := by decide +kernel
theorem dX6_leaves_70 : decode cX6_leaves 70 = .ok (.iconst 0, 1) := by decide +kernel
theorem dX6_leaves_71 : decode cX6_leaves 71 = .ok (.ireturn, 1) := by decide +kernel
theorem dX6_leaves_72 : decode cX6_leaves 72 = .ok (.aload_n 0, 1) := by decide +kernel
theorem dX6_leaves_73 : decode cX6_leaves 73 = .ok (.getfield 44, 3) := by decide +kernel
theorem dX6_leaves_76 : decode cX6_leaves 76 = .ok (.iload 6, 2) := by decide +kernel
theorem dX6_leaves_78 : decode cX6_leaves 78 = .ok (.iaload, 1) := by decide +kernel
theorem dX6_leaves_79 : decode cX6_leaves 79 = .ok (.ifCond .le 41, 3) := by decide +kernel
theorem dX6_leaves_82 : decode cX6_leaves 82 = .ok (.lload 7, 2) := by decide +kernel
theorem dX6_leaves_84 : decode cX6_leaves 84 = .ok (.aload_n 0, 1) := by decide +kernel
theorem dX6_leaves_85 : decode cX6_leaves 85 = .ok (.getfield 44, 3) := by decide +kernel
theorem dX6_leaves_88 : decode cX6_leaves 88 = .ok (.iload 6, 2) := by decide +kernel
theorem dX6_leaves_90 : decode cX6_leaves 90 = .ok (.iaload, 1) := by decide +kernel
theorem dX6_leaves_91 : decode cX6_leaves 91 = .ok (.i2l, 1) := by decide +kernel
theorem dX6_leaves_92 : decode cX6_leaves 92 = .ok (.invokestatic 372, 3) := by decide +kernel
theorem dX6_leaves_95 : decode cX6_leaves 95 = .ok (.aload_n 0, 1) := by decide +kernel
theorem dX6_leaves_96 : decode cX6_leaves 96 = .ok (.getfield 364, 3) := by decide +kernel
theorem dX6_leaves_99 : decode cX6_leaves 99 = .ok (.lcmp, 1) := by decide +kernel
theorem dX6_leaves_100 : decode cX6_leaves 100 = .ok (.ifCond .le 20, 3) := by decide +kernel
theorem dX6_leaves_103 : decode cX6_leaves 103 = .ok (.aload_n 0, 1) := by decide +kernel
theorem dX6_leaves_104 : decode cX6_leaves 104 = .ok (.lload 7, 2) := by decide +kernel
theorem dX6_leaves_106 : decode cX6_leaves 106 = .ok (.aload_n 0, 1) := by decide +kernel
theorem dX6_leaves_107 : decode cX6_leaves 107 = .ok (.getfield 44, 3) := by decide +kernel
theorem dX6_leaves_110 : decode cX6_leaves 110 = .ok (.iload 6, 2) := by decide +kernel
theorem dX6_leaves_112 : decode cX6_leaves 112 = .ok (.iaload, 1) := by decide +kernel
theorem dX6_leaves_113 : decode cX6_leaves 113 = .ok (.i2l, 1) := by decide +kernel
theorem dX6_leaves_114 : decode cX6_leaves 114 = .ok (.invokestatic 372, 3) := by decide +kernel
theorem dX6_leaves_117 : decode cX6_leaves 117 = .ok (.putfield 364, 3) := by decide +kernel
theorem dX6_leaves_120 : decode cX6_leaves 120 = .ok (.aload_n 0, 1) := by decide +kernel
theorem dX6_leaves_121 : decode cX6_leaves 121 = .ok (.getfield 44, 3) := by decide +kernel
theorem dX6_leaves_124 : decode cX6_leaves 124 = .ok (.iload 6, 2) := by decide +kernel
theorem dX6_leaves_126 : decode cX6_leaves 126 = .ok (.iaload, 1) := by decide +kernel
theorem dX6_leaves_127 : decode cX6_leaves 127 = .ok (.ifCond .ge 45, 3) := by decide +kernel
theorem dX6_leaves_130 : decode cX6_leaves 130 = .ok (.lload 7, 2) := by decide +kernel
theorem dX6_leaves_132 : decode cX6_leaves 132 = .ok (.lneg, 1) := by decide +kernel
theorem dX6_leaves_133 : decode cX6_leaves 133 = .ok (.aload_n 0, 1) := by decide +kernel
theorem dX6_leaves_134 : decode cX6_leaves 134 = .ok (.getfield 44, 3) := by decide +kernel
theorem dX6_leaves_137 : decode cX6_leaves 137 = .ok (.iload 6, 2) := by decide +kernel
theorem dX6_leaves_139 : decode cX6_leaves 139 = .ok (.iaload, 1) := by decide +kernel
theorem dX6_leaves_140 : decode cX6_leaves 140 = .ok (.ineg, 1) := by decide +kernel
theorem dX6_leaves_141 : decode cX6_leaves 141 = .ok (.i2l, 1) := by decide +kernel
theorem dX6_leaves_142 : decode cX6_leaves 142 = .ok (.invokestatic 85, 3) := by decide +kernel
theorem dX6_leaves_145 : decode cX6_leaves 145 = .ok (.aload_n 0, 1) := by decide +kernel
theorem dX6_leaves_146 : decode cX6_leaves 146 = .ok (.getfield 369, 3) := by decide +kernel
theorem dX6_leaves_149 : decode cX6_leaves 149 = .ok (.lcmp, 1) := by decide +kernel
theorem dX6_leaves_150 : decode cX6_leaves 150 = .ok (.ifCond .ge 22, 3) := by decide +kernel
theorem dX6_leaves_153 : decode cX6_leaves 153 = .ok (.aload_n 0, 1) := by decide +kernel
theorem dX6_leaves_154 : decode cX6_leaves 154 = .ok (.lload 7, 2) := by decide +kernel
theorem dX6_leaves_156 : decode cX6_leaves 156 = .ok (.lneg, 1) := by decide +kernel
theorem dX6_leaves_157 : decode cX6_leaves 157 = .ok (.aload_n 0, 1) := by decide +kernel
theorem dX6_leaves_158 : decode cX6_leaves 158 = .ok (.getfield 44, 3) := by decide +kernel
theorem dX6_leaves_161 : decode cX6_leaves 161 = .ok (.iload 6, 2) := by decide +kernel
theorem dX6_leaves_163 : decode cX6_leaves 163 = .ok (.iaload, 1) := by decide +kernel
theorem dX6_leaves_164 : decode cX6_leaves 164 = .ok (.ineg, 1) := by decide +kernel
theorem dX6_leaves_165 : decode cX6_leaves 165 = .ok (.i2l, 1) := by decide +kernel
theorem dX6_leaves_166 : decode cX6_leaves 166 = .ok (.invokestatic 85, 3) := by decide +kernel
theorem dX6_leaves_169 : decode cX6_leaves 169 = .ok (.putfield 369, 3) := by decide +kernel
theorem dX6_leaves_172 : decode cX6_leaves 172 = .ok (.iinc 6 1, 3) := by decide +kernel
theorem dX6_leaves_175 : decode cX6_leaves 175 = .ok (.goto (-158), 3) := by decide +kernel
theorem dX6_leaves_178 : decode cX6_leaves 178 = .ok (.aload_n 0, 1) := by decide +kernel
theorem dX6_leaves_179 : decode cX6_leaves 179 = .ok (.getfield 364, 3) := by decide +kernel
theorem dX6_leaves_182 : decode cX6_leaves 182 = .ok (.aload_n 0, 1) := by decide +kernel
theorem dX6_leaves_183 : decode cX6_leaves 183 = .ok (.getfield 369, 3) := by decide +kernel
theorem dX6_leaves_186 : decode cX6_leaves 186 = .ok (.lcmp, 1) := by decide +kernel
theorem dX6_leaves_187 : decode cX6_leaves 187 = .ok (.ifCond .gt 7, 3) := by decide +kernel
theorem dX6_leaves_190 : decode cX6_leaves 190 = .ok (.iconst 1, 1) := by decide +kernel
theorem dX6_leaves_191 : decode cX6_leaves 191 = .ok (.goto 4, 3) := by decide +kernel
theorem dX6_leaves_194 : decode cX6_leaves 194 = .ok (.iconst 0, 1) := by decide +kernel
theorem dX6_leaves_195 : decode cX6_leaves 195 = .ok (.ireturn, 1) := by decide +kernel
theorem dX6_leastM_0 : decode cX6_leastM 0 = .ok (.aload_n 0, 1) := by decide +kernel
theorem dX6_leastM_1 : decode cX6_leastM 1 = .ok (.iconst 1, 1) := by decide +kernel
theorem dX6_leastM_2 : decode cX6_leastM 2 = .ok (.iconst 0, 1) := by decide +kernel
theorem dX6_leastM_3 : decode cX6_leastM 3 = .ok (.invokevirtual 325, 3) := by decide +kernel
theorem dX6_leastM_6 : decode cX6_leastM 6 = .ok (.istore_n 3, 1) := by decide +kernel
theorem dX6_leastM_7 : decode cX6_leastM 7 = .ok (.iload_n 2, 1) := by decide +kernel
theorem dX6_leastM_8 : decode cX6_leastM 8 = .ok (.ineg, 1) := by decide +kernel
theorem dX6_leastM_9 : decode cX6_leastM 9 = .ok (.i2l, 1) := by decide +kernel
theorem dX6_leastM_10 : decode cX6_leastM 10 = .ok (.aload_n 0, 1) := by decide +kernel
theorem dX6_leastM_11 : decode cX6_leastM 11 = .ok (.iload_n 1, 1) := by decide +kernel
theorem dX6_leastM_12 : decode cX6_leastM 12 = .ok (.iload_n 3, 1) := by decide +kernel
theorem dX6_leastM_13 : decode cX6_leastM 13 = .ok (.iconst 1, 1) := by decide +kernel
theorem dX6_leastM_14 : decode cX6_leastM 14 = .ok (.iconst 0, 1) := by decide +kernel
theorem dX6_leastM_15 : decode cX6_leastM 15 = .ok (.invokevirtual 335, 3) := by decide +kernel
theorem dX6_leastM_18 : decode cX6_leastM 18 = .ok (.lmul, 1) := by decide +kernel
theorem dX6_leastM_19 : decode cX6_leastM 19 = .ok (.aload_n 0, 1) := by decide +kernel
theorem dX6_leastM_20 : decode cX6_leastM 20 = .ok (.iload_n 3, 1) := by decide +kernel
theorem dX6_leastM_21 : decode cX6_leastM 21 = .ok (.invokevirtual 288, 3) := by decide +kernel
theorem dX6_leastM_24 : decode cX6_leastM 24 = .ok (.i2l, 1) := by decide +kernel
theorem dX6_leastM_25 : decode cX6_leastM 25 = .ok (.invokestatic 372, 3) := by decide +kernel
theorem dX6_leastM_28 : decode cX6_leastM 28 = .ok (.lreturn, 1) := by decide +kernel
theorem dX6_mostM_0 : decode cX6_mostM 0 = .ok (.aload_n 0, 1) := by decide +kernel
theorem dX6_mostM_1 : decode cX6_mostM 1 = .ok (.iconst (-1), 1) := by decide +kernel
theorem dX6_mostM_2 : decode cX6_mostM 2 = .ok (.iconst 0, 1) := by decide +kernel
theorem dX6_mostM_3 : decode cX6_mostM 3 = .ok (.invokevirtual 325, 3) := by decide +kernel
theorem dX6_mostM_6 : decode cX6_mostM 6 = .ok (.istore_n 3, 1) := by decide +kernel
theorem dX6_mostM_7 : decode cX6_mostM 7 = .ok (.iload_n 2, 1) := by decide +kernel
theorem dX6_mostM_8 : decode cX6_mostM 8 = .ok (.i2l, 1) := by decide +kernel
theorem dX6_mostM_9 : decode cX6_mostM 9 = .ok (.aload_n 0, 1) := by decide +kernel
theorem dX6_mostM_10 : decode cX6_mostM 10 = .ok (.iload_n 1, 1) := by decide +kernel
theorem dX6_mostM_11 : decode cX6_mostM 11 = .ok (.iload_n 3, 1) := by decide +kernel
theorem dX6_mostM_12 : decode cX6_mostM 12 = .ok (.iconst (-1), 1) := by decide +kernel
theorem dX6_mostM_13 : decode cX6_mostM 13 = .ok (.iconst 0, 1) := by decide +kernel
theorem dX6_mostM_14 : decode cX6_mostM 14 = .ok (.invokevirtual 335, 3) := by decide +kernel
theorem dX6_mostM_17 : decode cX6_mostM 17 = .ok (.lmul, 1) := by decide +kernel
theorem dX6_mostM_18 : decode cX6_mostM 18 = .ok (.aload_n 0, 1) := by decide +kernel
theorem dX6_mostM_19 : decode cX6_mostM 19 = .ok (.iload_n 3, 1) := by decide +kernel
theorem dX6_mostM_20 : decode cX6_mostM 20 = .ok (.invokevirtual 288, 3) := by decide +kernel
theorem dX6_mostM_23 : decode cX6_mostM 23 = .ok (.i2l, 1) := by decide +kernel
theorem dX6_mostM_24 : decode cX6_mostM 24 = .ok (.invokestatic 85, 3) := by decide +kernel
theorem dX6_mostM_27 : decode cX6_mostM 27 = .ok (.lreturn, 1) := by decide +kernel
theorem dX6_count_0 : decode cX6_count 0 = .ok (.lconst 0, 1) := by decide +kernel
theorem dX6_count_1 : decode cX6_count 1 = .ok (.lstore 4, 2) := by decide +kernel
theorem dX6_count_3 : decode cX6_count 3 = .ok (.aload_n 0, 1) := by decide +kernel
theorem dX6_count_4 : decode cX6_count 4 = .ok (.iload_n 1, 1) := by decide +kernel
theorem dX6_count_5 : decode cX6_count 5 = .ok (.iload_n 2, 1) := by decide +kernel
theorem dX6_count_6 : decode cX6_count 6 = .ok (.invokevirtual 375, 3) := by decide +kernel
theorem dX6_count_9 : decode cX6_count 9 = .ok (.lstore 6, 2) := by decide +kernel
theorem dX6_count_11 : decode cX6_count 11 = .ok (.aload_n 0, 1) := by decide +kernel
theorem dX6_count_12 : decode cX6_count 12 = .ok (.iload_n 1, 1) := by decide +kernel
theorem dX6_count_13 : decode cX6_count 13 = .ok (.iload_n 2, 1) := by decide +kernel
theorem dX6_count_14 : decode cX6_count 14 = .ok (.invokevirtual 378, 3) := by decide +kernel
theorem dX6_count_17 : decode cX6_count 17 = .ok (.lstore 8, 2) := by decide +kernel
theorem dX6_count_19 : decode cX6_count 19 = .ok (.lload 8, 2) := by decide +kernel
theorem dX6_count_21 : decode cX6_count 21 = .ok (.lload 6, 2) := by decide +kernel
theorem dX6_count_23 : decode cX6_count 23 = .ok (.lcmp, 1) := by decide +kernel
theorem dX6_count_24 : decode cX6_count 24 = .ok (.ifCond .gt 40, 3) := by decide +kernel
theorem dX6_count_27 : decode cX6_count 27 = .ok (.aload_n 0, 1) := by decide +kernel
theorem dX6_count_28 : decode cX6_count 28 = .ok (.iload_n 1, 1) := by decide +kernel
theorem dX6_count_29 : decode cX6_count 29 = .ok (.iload_n 2, 1) := by decide +kernel
theorem dX6_count_30 : decode cX6_count 30 = .ok (.iload_n 3, 1) := by decide +kernel
theorem dX6_count_31 : decode cX6_count 31 = .ok (.lload 8, 2) := by decide +kernel
theorem dX6_count_33 : decode cX6_count 33 = .ok (.invokevirtual 381, 3) := by decide +kernel
theorem dX6_count_36 : decode cX6_count 36 = .ok (.ifCond .eq 19, 3) := by decide +kernel
theorem dX6_count_39 : decode cX6_count 39 = .ok (.lload 4, 2) := by decide +kernel
theorem dX6_count_41 : decode cX6_count 41 = .ok (.aload_n 0, 1) := by decide +kernel
theorem dX6_count_42 : decode cX6_count 42 = .ok (.getfield 369, 3) := by decide +kernel
theorem dX6_count_45 : decode cX6_count 45 = .ok (.aload_n 0, 1) := by decide +kernel
theorem dX6_count_46 : decode cX6_count 46 = .ok (.getfield 364, 3) := by decide +kernel
theorem dX6_count_49 : decode cX6_count 49 = .ok (.lsub, 1) := by decide +kernel
theorem dX6_count_50 : decode cX6_count 50 = .ok (.lconst 1, 1) := by decide +kernel
theorem dX6_count_51 : decode cX6_count 51 = .ok (.ladd, 1) := by decide +kernel
theorem dX6_count_52 : decode cX6_count 52 = .ok (.ladd, 1) := by decide +kernel
theorem dX6_count_53 : decode cX6_count 53 = .ok (.lstore 4, 2) := by decide +kernel
theorem dX6_count_55 : decode cX6_count 55 = .ok (.lload 8, 2) := by decide +kernel
theorem dX6_count_57 : decode cX6_count 57 = .ok (.lconst 1, 1) := by decide +kernel
theorem dX6_count_58 : decode cX6_count 58 = .ok (.ladd, 1) := by decide +kernel
theorem dX6_count_59 : decode cX6_count 59 = .ok (.lstore 8, 2) := by decide +kernel
theorem dX6_count_61 : decode cX6_count 61 = .ok (.goto (-42), 3) := by decide +kernel
theorem dX6_count_64 : decode cX6_count 64 = .ok (.lload 4, 2) := by decide +kernel
theorem dX6_count_66 : decode cX6_count 66 = .ok (.lreturn, 1) := by decide +kernel
theorem dX6_points_0 : decode cX6_points 0 = .ok (.aload_n 0, 1) := by decide +kernel
theorem dX6_points_1 : decode cX6_points 1 = .ok (.iconst 0, 1) := by decide +kernel
theorem dX6_points_2 : decode cX6_points 2 = .ok (.putfield 77, 3) := by decide +kernel
theorem dX6_points_5 : decode cX6_points 5 = .ok (.aload_n 0, 1) := by decide +kernel
theorem dX6_points_6 : decode cX6_points 6 = .ok (.iload_n 1, 1) := by decide +kernel
theorem dX6_points_7 : decode cX6_points 7 = .ok (.invokevirtual 328, 3) := by decide +kernel
theorem dX6_points_10 : decode cX6_points 10 = .ok (.ifCond .ne 9, 3) := by decide +kernel
theorem dX6_points_13 : decode cX6_points 13 = .ok (.aload_n 0, 1) := by decide +kernel
theorem dX6_points_14 : decode cX6_points 14 = .ok (.iconst 1, 1) := by decide +kernel
theorem dX6_points_15 : decode cX6_points 15 = .ok (.invokevirtual 311, 3) := by decide +kernel
theorem dX6_points_18 : decode cX6_points 18 = .ok (.lreturn, 1) := by decide +kernel
theorem dX6_points_19 : decode cX6_points 19 = .ok (.iload_n 2, 1) := by decide +kernel
theorem dX6_points_20 : decode cX6_points 20 = .ok (.i2l, 1) := by decide +kernel
theorem dX6_points_21 : decode cX6_points 21 = .ok (.lconst 0, 1) := by decide +kernel
theorem dX6_points_22 : decode cX6_points 22 = .ok (.ldc2_w 385, 3) := by decide +kernel
theorem dX6_points_25 : decode cX6_points 25 = .ok (.invokestatic 108, 3) := by decide +kernel
theorem dX6_points_28 : decode cX6_points 28 = .ok (.ifCond .eq 17, 3) := by decide +kernel
theorem dX6_points_31 : decode cX6_points 31 = .ok (.aload_n 0, 1) := by decide +kernel
theorem dX6_points_32 : decode cX6_points 32 = .ok (.aload_n 0, 1) := by decide +kernel
theorem dX6_points_33 : decode cX6_points 33 = .ok (.iload_n 1, 1) := by decide +kernel
theorem dX6_points_34 : decode cX6_points 34 = .ok (.iload_n 2, 1) := by decide +kernel
theorem dX6_points_35 : decode cX6_points 35 = .ok (.iconst 0, 1) := by decide +kernel
theorem dX6_points_36 : decode cX6_points 36 = .ok (.invokevirtual 387, 3) := by decide +kernel
theorem dX6_points_39 : decode cX6_points 39 = .ok (.invokevirtual 315, 3) := by decide +kernel
theorem dX6_points_42 : decode cX6_points 42 = .ok (.goto 8, 3) := by decide +kernel
theorem dX6_points_45 : decode cX6_points 45 = .ok (.aload_n 0, 1) := by decide +kernel
theorem dX6_points_46 : decode cX6_points 46 = .ok (.iconst 2, 1) := by decide +kernel
theorem dX6_points_47 : decode cX6_points 47 = .ok (.invokevirtual 311, 3) := by decide +kernel
theorem dX6_points_50 : decode cX6_points 50 = .ok (.lreturn, 1) := by decide +kernel
theorem dX6_inner_0 : decode cX6_inner 0 = .ok (.aload_n 0, 1) := by decide +kernel
theorem dX6_inner_1 : decode cX6_inner 1 = .ok (.iconst 0, 1) := by decide +kernel
theorem dX6_inner_2 : decode cX6_inner 2 = .ok (.putfield 77, 3) := by decide +kernel
theorem dX6_inner_5 : decode cX6_inner 5 = .ok (.aload_n 0, 1) := by decide +kernel
theorem dX6_inner_6 : decode cX6_inner 6 = .ok (.iload_n 1, 1) := by decide +kernel
theorem dX6_inner_7 : decode cX6_inner 7 = .ok (.invokevirtual 328, 3) := by decide +kernel
theorem dX6_inner_10 : decode cX6_inner 10 = .ok (.ifCond .ne 9, 3) := by decide +kernel
theorem dX6_inner_13 : decode cX6_inner 13 = .ok (.aload_n 0, 1) := by decide +kernel
theorem dX6_inner_14 : decode cX6_inner 14 = .ok (.iconst 1, 1) := by decide +kernel
theorem dX6_inner_15 : decode cX6_inner 15 = .ok (.invokevirtual 311, 3) := by decide +kernel
theorem dX6_inner_18 : decode cX6_inner 18 = .ok (.lreturn, 1) := by decide +kernel
theorem dX6_inner_19 : decode cX6_inner 19 = .ok (.iload_n 2, 1) := by decide +kernel
theorem dX6_inner_20 : decode cX6_inner 20 = .ok (.i2l, 1) := by decide +kernel
theorem dX6_inner_21 : decode cX6_inner 21 = .ok (.lconst 0, 1) := by decide +kernel
theorem dX6_inner_22 : decode cX6_inner 22 = .ok (.ldc2_w 385, 3) := by decide +kernel
theorem dX6_inner_25 : decode cX6_inner 25 = .ok (.invokestatic 108, 3) := by decide +kernel
theorem dX6_inner_28 : decode cX6_inner 28 = .ok (.ifCond .eq 17, 3) := by decide +kernel
theorem dX6_inner_31 : decode cX6_inner 31 = .ok (.aload_n 0, 1) := by decide +kernel
theorem dX6_inner_32 : decode cX6_inner 32 = .ok (.aload_n 0, 1) := by decide +kernel
theorem dX6_inner_33 : decode cX6_inner 33 = .ok (.iload_n 1, 1) := by decide +kernel
theorem dX6_inner_34 : decode cX6_inner 34 = .ok (.iload_n 2, 1) := by decide +kernel
theorem dX6_inner_35 : decode cX6_inner 35 = .ok (.iconst 1, 1) := by decide +kernel
theorem dX6_inner_36 : decode cX6_inner 36 = .ok (.invokevirtual 387, 3) := by decide +kernel
theorem dX6_inner_39 : decode cX6_inner 39 = .ok (.invokevirtual 315, 3) := by decide +kernel
theorem dX6_inner_42 : decode cX6_inner 42 = .ok (.goto 8, 3) := by decide +kernel
theorem dX6_inner_45 : decode cX6_inner 45 = .ok (.aload_n 0, 1) := by decide +kernel
theorem dX6_inner_46 : decode cX6_inner 46 = .ok (.iconst 2, 1) := by decide +kernel
theorem dX6_inner_47 : decode cX6_inner 47 = .ok (.invokevirtual 311, 3) := by decide +kernel
theorem dX6_inner_50 : decode cX6_inner 50 = .ok (.lreturn, 1) := by decide +kernel
theorem dX6_point_0 : decode cX6_point 0 = .ok (.aload_n 0, 1) := by decide +kernel
theorem dX6_point_1 : decode cX6_point 1 = .ok (.iconst 0, 1) := by decide +kernel
theorem dX6_point_2 : decode cX6_point 2 = .ok (.putfield 77, 3) := by decide +kernel
theorem dX6_point_5 : decode cX6_point 5 = .ok (.aload_n 0, 1) := by decide +kernel
theorem dX6_point_6 : decode cX6_point 6 = .ok (.iload_n 1, 1) := by decide +kernel
theorem dX6_point_7 : decode cX6_point 7 = .ok (.invokevirtual 328, 3) := by decide +kernel
theorem dX6_point_10 : decode cX6_point 10 = .ok (.ifCond .eq 14, 3) := by decide +kernel
theorem dX6_point_13 : decode cX6_point 13 = .ok (.iload 5, 2) := by decide +kernel
theorem dX6_point_15 : decode cX6_point 15 = .ok (.i2l, 1) := by decide +kernel
theorem dX6_point_16 : decode cX6_point 16 = .ok (.lconst 0, 1) := by decide +kernel
theorem dX6_point_17 : decode cX6_point 17 = .ok (.lconst 1, 1) := by decide +kernel
theorem dX6_point_18 : decode cX6_point 18 = .ok (.invokestatic 108, 3) := by decide +kernel
theorem dX6_point_21 : decode cX6_point 21 = .ok (.ifCond .ne 9, 3) := by decide +kernel
theorem dX6_point_24 : decode cX6_point 24 = .ok (.aload_n 0, 1) := by decide +kernel
theorem dX6_point_25 : decode cX6_point 25 = .ok (.iconst 1, 1) := by decide +kernel
theorem dX6_point_26 : decode cX6_point 26 = .ok (.invokevirtual 311, 3) := by decide +kernel
theorem dX6_point_29 : decode cX6_point 29 = .ok (.lreturn, 1) := by decide +kernel
theorem dX6_point_30 : decode cX6_point 30 = .ok (.iload_n 2, 1) := by decide +kernel
theorem dX6_point_31 : decode cX6_point 31 = .ok (.i2l, 1) := by decide +kernel
theorem dX6_point_32 : decode cX6_point 32 = .ok (.lconst 0, 1) := by decide +kernel
theorem dX6_point_33 : decode cX6_point 33 = .ok (.ldc2_w 385, 3) := by decide +kernel
theorem dX6_point_36 : decode cX6_point 36 = .ok (.invokestatic 108, 3) := by decide +kernel
theorem dX6_point_39 : decode cX6_point 39 = .ok (.ifCond .ne 9, 3) := by decide +kernel
theorem dX6_point_42 : decode cX6_point 42 = .ok (.aload_n 0, 1) := by decide +kernel
theorem dX6_point_43 : decode cX6_point 43 = .ok (.iconst 2, 1) := by decide +kernel
theorem dX6_point_44 : decode cX6_point 44 = .ok (.invokevirtual 311, 3) := by decide +kernel
theorem dX6_point_47 : decode cX6_point 47 = .ok (.lreturn, 1) := by decide +kernel
theorem dX6_point_48 : decode cX6_point 48 = .ok (.lload_n 3, 1) := by decide +kernel
theorem dX6_point_49 : decode cX6_point 49 = .ok (.lstore 6, 2) := by decide +kernel
theorem dX6_point_51 : decode cX6_point 51 = .ok (.aload_n 0, 1) := by decide +kernel
theorem dX6_point_52 : decode cX6_point 52 = .ok (.iload_n 1, 1) := by decide +kernel
theorem dX6_point_53 : decode cX6_point 53 = .ok (.iload_n 2, 1) := by decide +kernel
theorem dX6_point_54 : decode cX6_point 54 = .ok (.invokevirtual 375, 3) := by decide +kernel
theorem dX6_point_57 : decode cX6_point 57 = .ok (.lstore 8, 2) := by decide +kernel
theorem dX6_point_59 : decode cX6_point 59 = .ok (.aload_n 0, 1) := by decide +kernel
theorem dX6_point_60 : decode cX6_point 60 = .ok (.iload_n 1, 1) := by decide +kernel
theorem dX6_point_61 : decode cX6_point 61 = .ok (.iload_n 2, 1) := by decide +kernel
theorem dX6_point_62 : decode cX6_point 62 = .ok (.invokevirtual 378, 3) := by decide +kernel
theorem dX6_point_65 : decode cX6_point 65 = .ok (.lstore 10, 2) := by decide +kernel
theorem dX6_point_67 : decode cX6_point 67 = .ok (.lload 10, 2) := by decide +kernel
theorem dX6_point_69 : decode cX6_point 69 = .ok (.lload 8, 2) := by decide +kernel
theorem dX6_point_71 : decode cX6_point 71 = .ok (.lcmp, 1) := by decide +kernel
theorem dX6_point_72 : decode cX6_point 72 = .ok (.ifCond .gt 84, 3) := by decide +kernel
theorem dX6_point_75 : decode cX6_point 75 = .ok (.lload 6, 2) := by decide +kernel
theorem dX6_point_77 : decode cX6_point 77 = .ok (.lconst 0, 1) := by decide +kernel
theorem dX6_point_78 : decode cX6_point 78 = .ok (.lcmp, 1) := by decide +kernel
theorem dX6_point_79 : decode cX6_point 79 = .ok (.ifCond .lt 77, 3) := by decide +kernel
theorem dX6_point_82 : decode cX6_point 82 = .ok (.aload_n 0, 1) := by decide +kernel
theorem dX6_point_83 : decode cX6_point 83 = .ok (.iload_n 1, 1) := by decide +kernel
theorem dX6_point_84 : decode cX6_point 84 = .ok (.iload_n 2, 1) := by decide +kernel
theorem dX6_point_85 : decode cX6_point 85 = .ok (.iconst 0, 1) := by decide +kernel
theorem dX6_point_86 : decode cX6_point 86 = .ok (.lload 10, 2) := by decide +kernel
theorem dX6_point_88 : decode cX6_point 88 = .ok (.invokevirtual 381, 3) := by decide +kernel
theorem dX6_point_91 : decode cX6_point 91 = .ok (.ifCond .ne 6, 3) := by decide +kernel
theorem dX6_point_94 : decode cX6_point 94 = .ok (.goto 53, 3) := by decide +kernel
theorem dX6_point_97 : decode cX6_point 97 = .ok (.aload_n 0, 1) := by decide +kernel
theorem dX6_point_98 : decode cX6_point 98 = .ok (.getfield 369, 3) := by decide +kernel
theorem dX6_point_101 : decode cX6_point 101 = .ok (.aload_n 0, 1) := by decide +kernel
theorem dX6_point_102 : decode cX6_point 102 = .ok (.getfield 364, 3) := by decide +kernel
theorem dX6_point_105 : decode cX6_point 105 = .ok (.lsub, 1) := by decide +kernel
theorem dX6_point_106 : decode cX6_point 106 = .ok (.lconst 1, 1) := by decide +kernel
theorem dX6_point_107 : decode cX6_point 107 = .ok (.ladd, 1) := by decide +kernel
theorem dX6_point_108 : decode cX6_point 108 = .ok (.lstore 12, 2) := by decide +kernel
theorem dX6_point_110 : decode cX6_point 110 = .ok (.lload 6, 2) := by decide +kernel
theorem dX6_point_112 : decode cX6_point 112 = .ok (.lload 12, 2) := by decide +kernel
theorem dX6_point_114 : decode cX6_point 114 = .ok (.lcmp, 1) := by decide +kernel
theorem dX6_point_115 : decode cX6_point 115 = .ok (.ifCond .ge 25, 3) := by decide +kernel
theorem dX6_point_118 : decode cX6_point 118 = .ok (.aload_n 0, 1) := by decide +kernel
theorem dX6_point_119 : decode cX6_point 119 = .ok (.iload 5, 2) := by decide +kernel
theorem dX6_point_121 : decode cX6_point 121 = .ok (.ifCond .ne 8, 3) := by decide +kernel
theorem dX6_point_124 : decode cX6_point 124 = .ok (.lload 10, 2) := by decide +kernel
theorem dX6_point_126 : decode cX6_point 126 = .ok (.goto 10, 3) := by decide +kernel
theorem dX6_point_129 : decode cX6_point 129 = .ok (.aload_n 0, 1) := by decide +kernel
theorem dX6_point_130 : decode cX6_point 130 = .ok (.getfield 364, 3) := by decide +kernel
theorem dX6_point_133 : decode cX6_point 133 = .ok (.lload 6, 2) := by decide +kernel
theorem dX6_point_135 : decode cX6_point 135 = .ok (.ladd, 1) := by decide +kernel
theorem dX6_point_136 : decode cX6_point 136 = .ok (.invokevirtual 315, 3) := by decide +kernel
theorem dX6_point_139 : decode cX6_point 139 = .ok (.lreturn, 1) := by decide +kernel
theorem dX6_point_140 : decode cX6_point 140 = .ok (.lload 6, 2) := by decide +kernel
theorem dX6_point_142 : decode cX6_point 142 = .ok (.lload 12, 2) := by decide +kernel
theorem dX6_point_144 : decode cX6_point 144 = .ok (.lsub, 1) := by decide +kernel
theorem dX6_point_145 : decode cX6_point 145 = .ok (.lstore 6, 2) := by decide +kernel
theorem dX6_point_147 : decode cX6_point 147 = .ok (.lload 10, 2) := by decide +kernel
theorem dX6_point_149 : decode cX6_point 149 = .ok (.lconst 1, 1) := by decide +kernel
theorem dX6_point_150 : decode cX6_point 150 = .ok (.ladd, 1) := by decide +kernel
theorem dX6_point_151 : decode cX6_point 151 = .ok (.lstore 10, 2) := by decide +kernel
theorem dX6_point_153 : decode cX6_point 153 = .ok (.goto (-86), 3) := by decide +kernel
theorem dX6_point_156 : decode cX6_point 156 = .ok (.aload_n 0, 1) := by decide +kernel
theorem dX6_point_157 : decode cX6_point 157 = .ok (.iconst 1, 1) := by decide +kernel
theorem dX6_point_158 : decode cX6_point 158 = .ok (.invokevirtual 311, 3) := by decide +kernel
theorem dX6_point_161 : decode cX6_point 161 = .ok (.lreturn, 1) := by decide +kernel
theorem dX6_needs__0 : decode cX6_needs_ 0 = .ok (.aload_n 0, 1) := by decide +kernel
theorem dX6_needs__1 : decode cX6_needs_ 1 = .ok (.iconst 0, 1) := by decide +kernel
theorem dX6_needs__2 : decode cX6_needs_ 2 = .ok (.putfield 77, 3) := by decide +kernel
theorem dX6_needs__5 : decode cX6_needs_ 5 = .ok (.aload_n 0, 1) := by decide +kernel
theorem dX6_needs__6 : decode cX6_needs_ 6 = .ok (.iload_n 1, 1) := by decide +kernel
theorem dX6_needs__7 : decode cX6_needs_ 7 = .ok (.invokevirtual 328, 3) := by decide +kernel
theorem dX6_needs__10 : decode cX6_needs_ 10 = .ok (.ifCond .ne 9, 3) := by decide +kernel
theorem dX6_needs__13 : decode cX6_needs_ 13 = .ok (.aload_n 0, 1) := by decide +kernel
theorem dX6_needs__14 : decode cX6_needs_ 14 = .ok (.iconst 1, 1) := by decide +kernel
theorem dX6_needs__15 : decode cX6_needs_ 15 = .ok (.invokevirtual 267, 3) := by decide +kernel
theorem dX6_needs__18 : decode cX6_needs_ 18 = .ok (.ireturn, 1) := by decide +kernel
theorem dX6_needs__19 : decode cX6_needs_ 19 = .ok (.iconst 1, 1) := by decide +kernel
theorem dX6_needs__20 : decode cX6_needs_ 20 = .ok (.istore 4, 2) := by decide +kernel
theorem dX6_needs__22 : decode cX6_needs_ 22 = .ok (.iload 4, 2) := by decide +kernel
theorem dX6_needs__24 : decode cX6_needs_ 24 = .ok (.iconst 4, 1) := by decide +kernel
theorem dX6_needs__25 : decode cX6_needs_ 25 = .ok (.if_icmp .gt 29, 3) := by decide +kernel
theorem dX6_needs__28 : decode cX6_needs_ 28 = .ok (.aload_n 0, 1) := by decide +kernel
theorem dX6_needs__29 : decode cX6_needs_ 29 = .ok (.iload_n 1, 1) := by decide +kernel
theorem dX6_needs__30 : decode cX6_needs_ 30 = .ok (.iload 4, 2) := by decide +kernel
theorem dX6_needs__32 : decode cX6_needs_ 32 = .ok (.iconst 0, 1) := by decide +kernel
theorem dX6_needs__33 : decode cX6_needs_ 33 = .ok (.invokevirtual 387, 3) := by decide +kernel
theorem dX6_needs__36 : decode cX6_needs_ 36 = .ok (.lload_n 2, 1) := by decide +kernel
theorem dX6_needs__37 : decode cX6_needs_ 37 = .ok (.lcmp, 1) := by decide +kernel
theorem dX6_needs__38 : decode cX6_needs_ 38 = .ok (.ifCond .lt 10, 3) := by decide +kernel
theorem dX6_needs__41 : decode cX6_needs_ 41 = .ok (.aload_n 0, 1) := by decide +kernel
theorem dX6_needs__42 : decode cX6_needs_ 42 = .ok (.iload 4, 2) := by decide +kernel
theorem dX6_needs__44 : decode cX6_needs_ 44 = .ok (.invokevirtual 270, 3) := by decide +kernel
theorem dX6_needs__47 : decode cX6_needs_ 47 = .ok (.ireturn, 1) := by decide +kernel
theorem dX6_needs__48 : decode cX6_needs_ 48 = .ok (.iinc 4 1, 3) := by decide +kernel
theorem dX6_needs__51 : decode cX6_needs_ 51 = .ok (.goto (-29), 3) := by decide +kernel
theorem dX6_needs__54 : decode cX6_needs_ 54 = .ok (.aload_n 0, 1) := by decide +kernel
theorem dX6_needs__55 : decode cX6_needs_ 55 = .ok (.bipush (-2), 2) := by decide +kernel
theorem dX6_needs__57 : decode cX6_needs_ 57 = .ok (.invokevirtual 270, 3) := by decide +kernel
theorem dX6_needs__60 : decode cX6_needs_ 60 = .ok (.ireturn, 1) := by decide +kernel
theorem dX6_set_0 : decode cX6_set 0 = .ok (.aload_n 0, 1) := by decide +kernel
theorem dX6_set_1 : decode cX6_set 1 = .ok (.iconst 0, 1) := by decide +kernel
theorem dX6_set_2 : decode cX6_set 2 = .ok (.putfield 77, 3) := by decide +kernel
theorem dX6_set_5 : decode cX6_set 5 = .ok (.aload_n 0, 1) := by decide +kernel
theorem dX6_set_6 : decode cX6_set 6 = .ok (.iload_n 1, 1) := by decide +kernel
theorem dX6_set_7 : decode cX6_set 7 = .ok (.invokevirtual 328, 3) := by decide +kernel
theorem dX6_set_10 : decode cX6_set 10 = .ok (.ifCond .eq 11, 3) := by decide +kernel
theorem dX6_set_13 : decode cX6_set 13 = .ok (.aload_n 0, 1) := by decide +kernel
theorem dX6_set_14 : decode cX6_set 14 = .ok (.iload_n 2, 1) := by decide +kernel
theorem dX6_set_15 : decode cX6_set 15 = .ok (.invokevirtual 308, 3) := by decide +kernel
theorem dX6_set_18 : decode cX6_set 18 = .ok (.ifCond .ne 9, 3) := by decide +kernel
theorem dX6_set_21 : decode cX6_set 21 = .ok (.aload_n 0, 1) := by decide +kernel
theorem dX6_set_22 : decode cX6_set 22 = .ok (.iconst 1, 1) := by decide +kernel
theorem dX6_set_23 : decode cX6_set 23 = .ok (.invokevirtual 311, 3) := by decide +kernel
theorem dX6_set_26 : decode cX6_set 26 = .ok (.lreturn, 1) := by decide +kernel
theorem dX6_set_27 : decode cX6_set 27 = .ok (.iload_n 3, 1) := by decide +kernel
theorem dX6_set_28 : decode cX6_set 28 = .ok (.i2l, 1) := by decide +kernel
theorem dX6_set_29 : decode cX6_set 29 = .ok (.ldc2_w 391, 3) := by decide +kernel
theorem dX6_set_32 : decode cX6_set 32 = .ok (.ldc2_w 393, 3) := by decide +kernel
theorem dX6_set_35 : decode cX6_set 35 = .ok (.invokestatic 108, 3) := by decide +kernel
theorem dX6_set_38 : decode cX6_set 38 = .ok (.ifCond .ne 9, 3) := by decide +kernel
theorem dX6_set_41 : decode cX6_set 41 = .ok (.aload_n 0, 1) := by decide +kernel
theorem dX6_set_42 : decode cX6_set 42 = .ok (.iconst 2, 1) := by decide +kernel
theorem dX6_set_43 : decode cX6_set 43 = .ok (.invokevirtual 311, 3) := by decide +kernel
theorem dX6_set_46 : decode cX6_set 46 = .ok (.lreturn, 1) := by decide +kernel
theorem dX6_set_47 : decode cX6_set 47 = .ok (.aload_n 0, 1) := by decide +kernel
theorem dX6_set_48 : decode cX6_set 48 = .ok (.invokevirtual 395, 3) := by decide +kernel
theorem dX6_set_51 : decode cX6_set 51 = .ok (.aload_n 0, 1) := by decide +kernel
theorem dX6_set_52 : decode cX6_set 52 = .ok (.iload_n 1, 1) := by decide +kernel
theorem dX6_set_53 : decode cX6_set 53 = .ok (.iload_n 2, 1) := by decide +kernel
theorem dX6_set_54 : decode cX6_set 54 = .ok (.invokevirtual 331, 3) := by decide +kernel
theorem dX6_set_57 : decode cX6_set 57 = .ok (.lstore 4, 2) := by decide +kernel
theorem dX6_set_59 : decode cX6_set 59 = .ok (.aload_n 0, 1) := by decide +kernel
theorem dX6_set_60 : decode cX6_set 60 = .ok (.getfield 47, 3) := by decide +kernel
theorem dX6_set_63 : decode cX6_set 63 = .ok (.bipush 25, 2) := by decide +kernel
theorem dX6_set_65 : decode cX6_set 65 = .ok (.iload_n 1, 1) := by decide +kernel
theorem dX6_set_66 : decode cX6_set 66 = .ok (.imul, 1) := by decide +kernel
theorem dX6_set_67 : decode cX6_set 67 = .ok (.iload_n 2, 1) := by decide +kernel
theorem dX6_set_68 : decode cX6_set 68 = .ok (.iadd, 1) := by decide +kernel
theorem dX6_set_69 : decode cX6_set 69 = .ok (.iload_n 3, 1) := by decide +kernel
theorem dX6_set_70 : decode cX6_set 70 = .ok (.iastore, 1) := by decide +kernel
theorem dX6_set_71 : decode cX6_set 71 = .ok (.aload_n 0, 1) := by decide +kernel
theorem dX6_set_72 : decode cX6_set 72 = .ok (.lload 4, 2) := by decide +kernel
theorem dX6_set_74 : decode cX6_set 74 = .ok (.invokevirtual 315, 3) := by decide +kernel
theorem dX6_set_77 : decode cX6_set 77 = .ok (.lreturn, 1) := by decide +kernel
theorem dX6_fill_0 : decode cX6_fill 0 = .ok (.aload_n 0, 1) := by decide +kernel
theorem dX6_fill_1 : decode cX6_fill 1 = .ok (.iconst 0, 1) := by decide +kernel
theorem dX6_fill_2 : decode cX6_fill 2 = .ok (.putfield 77, 3) := by decide +kernel
theorem dX6_fill_5 : decode cX6_fill 5 = .ok (.aload_n 0, 1) := by decide +kernel
theorem dX6_fill_6 : decode cX6_fill 6 = .ok (.iload_n 1, 1) := by decide +kernel
theorem dX6_fill_7 : decode cX6_fill 7 = .ok (.invokevirtual 328, 3) := by decide +kernel
theorem dX6_fill_10 : decode cX6_fill 10 = .ok (.ifCond .ne 9, 3) := by decide +kernel
theorem dX6_fill_13 : decode cX6_fill 13 = .ok (.aload_n 0, 1) := by decide +kernel
theorem dX6_fill_14 : decode cX6_fill 14 = .ok (.iconst 1, 1) := by decide +kernel
theorem dX6_fill_15 : decode cX6_fill 15 = .ok (.invokevirtual 398, 3) := by decide +kernel
theorem dX6_fill_18 : decode cX6_fill 18 = .ok (.ireturn, 1) := by decide +kernel
theorem dX6_fill_19 : decode cX6_fill 19 = .ok (.iload_n 2, 1) := by decide +kernel
theorem dX6_fill_20 : decode cX6_fill 20 = .ok (.i2l, 1) := by decide +kernel
theorem dX6_fill_21 : decode cX6_fill 21 = .ok (.ldc2_w 391, 3) := by decide +kernel
theorem dX6_fill_24 : decode cX6_fill 24 = .ok (.ldc2_w 393, 3) := by decide +kernel
theorem dX6_fill_27 : decode cX6_fill 27 = .ok (.invokestatic 108, 3) := by decide +kernel
theorem dX6_fill_30 : decode cX6_fill 30 = .ok (.ifCond .ne 9, 3) := by decide +kernel
theorem dX6_fill_33 : decode cX6_fill 33 = .ok (.aload_n 0, 1) := by decide +kernel
theorem dX6_fill_34 : decode cX6_fill 34 = .ok (.iconst 2, 1) := by decide +kernel
theorem dX6_fill_35 : decode cX6_fill 35 = .ok (.invokevirtual 398, 3) := by decide +kernel
theorem dX6_fill_38 : decode cX6_fill 38 = .ok (.ireturn, 1) := by decide +kernel
theorem dX6_fill_39 : decode cX6_fill 39 = .ok (.aload_n 0, 1) := by decide +kernel
theorem dX6_fill_40 : decode cX6_fill 40 = .ok (.invokevirtual 395, 3) := by decide +kernel
theorem dX6_fill_43 : decode cX6_fill 43 = .ok (.iconst 0, 1) := by decide +kernel
theorem dX6_fill_44 : decode cX6_fill 44 = .ok (.istore_n 3, 1) := by decide +kernel
theorem dX6_fill_45 : decode cX6_fill 45 = .ok (.iload_n 3, 1) := by decide +kernel
theorem dX6_fill_46 : decode cX6_fill 46 = .ok (.aload_n 0, 1) := by decide +kernel
theorem dX6_fill_47 : decode cX6_fill 47 = .ok (.getfield 255, 3) := by decide +kernel
theorem dX6_fill_50 : decode cX6_fill 50 = .ok (.if_icmp .ge 21, 3) := by decide +kernel
theorem dX6_fill_53 : decode cX6_fill 53 = .ok (.aload_n 0, 1) := by decide +kernel
theorem dX6_fill_54 : decode cX6_fill 54 = .ok (.getfield 47, 3) := by decide +kernel
theorem dX6_fill_57 : decode cX6_fill 57 = .ok (.bipush 25, 2) := by decide +kernel
theorem dX6_fill_59 : decode cX6_fill 59 = .ok (.iload_n 1, 1) := by decide +kernel
theorem dX6_fill_60 : decode cX6_fill 60 = .ok (.imul, 1) := by decide +kernel
theorem dX6_fill_61 : decode cX6_fill 61 = .ok (.iload_n 3, 1) := by decide +kernel
theorem dX6_fill_62 : decode cX6_fill 62 = .ok (.iadd, 1) := by decide +kernel
theorem dX6_fill_63 : decode cX6_fill 63 = .ok (.iload_n 2, 1) := by decide +kernel
theorem dX6_fill_64 : decode cX6_fill 64 = .ok (.iastore, 1) := by decide +kernel
theorem dX6_fill_65 : decode cX6_fill 65 = .ok (.iinc 3 1, 3) := by decide +kernel
theorem dX6_fill_68 : decode cX6_fill 68 = .ok (.goto (-23), 3) := by decide +kernel
theorem dX6_fill_71 : decode cX6_fill 71 = .ok (.aload_n 0, 1) := by decide +kernel
theorem dX6_fill_72 : decode cX6_fill 72 = .ok (.iconst 0, 1) := by decide +kernel
theorem dX6_fill_73 : decode cX6_fill 73 = .ok (.invokevirtual 398, 3) := by decide +kernel
theorem dX6_fill_76 : decode cX6_fill 76 = .ok (.ireturn, 1) := by decide +kernel
theorem dX6_becomes_0 : decode cX6_becomes 0 = .ok (.iconst 0, 1) := by decide +kernel
theorem dX6_becomes_1 : decode cX6_becomes 1 = .ok (.istore_n 2, 1) := by decide +kernel
theorem dX6_becomes_2 : decode cX6_becomes 2 = .ok (.iload_n 2, 1) := by decide +kernel
theorem dX6_becomes_3 : decode cX6_becomes 3 = .ok (.aload_n 0, 1) := by decide +kernel
theorem dX6_becomes_4 : decode cX6_becomes 4 = .ok (.getfield 255, 3) := by decide +kernel
theorem dX6_becomes_7 : decode cX6_becomes 7 = .ok (.if_icmp .ge 34, 3) := by decide +kernel
theorem dX6_becomes_10 : decode cX6_becomes 10 = .ok (.aload_n 0, 1) := by decide +kernel
theorem dX6_becomes_11 : decode cX6_becomes 11 = .ok (.getfield 74, 3) := by decide +kernel
theorem dX6_becomes_14 : decode cX6_becomes 14 = .ok (.iload_n 2, 1) := by decide +kernel
theorem dX6_becomes_15 : decode cX6_becomes 15 = .ok (.iaload, 1) := by decide +kernel
theorem dX6_becomes_16 : decode cX6_becomes 16 = .ok (.i2l, 1) := by decide +kernel
theorem dX6_becomes_17 : decode cX6_becomes 17 = .ok (.ldc2_w 247, 3) := by decide +kernel
theorem dX6_becomes_20 : decode cX6_becomes 20 = .ok (.ldc2_w 249, 3) := by decide +kernel
theorem dX6_becomes_23 : decode cX6_becomes 23 = .ok (.invokestatic 108, 3) := by decide +kernel
theorem dX6_becomes_26 : decode cX6_becomes 26 = .ok (.ifCond .ne 9, 3) := by decide +kernel
theorem dX6_becomes_29 : decode cX6_becomes 29 = .ok (.aload_n 0, 1) := by decide +kernel
theorem dX6_becomes_30 : decode cX6_becomes 30 = .ok (.iconst 3, 1) := by decide +kernel
theorem dX6_becomes_31 : decode cX6_becomes 31 = .ok (.invokevirtual 398, 3) := by decide +kernel
theorem dX6_becomes_34 : decode cX6_becomes 34 = .ok (.ireturn, 1) := by decide +kernel
theorem dX6_becomes_35 : decode cX6_becomes 35 = .ok (.iinc 2 1, 3) := by decide +kernel
theorem dX6_becomes_38 : decode cX6_becomes 38 = .ok (.goto (-36), 3) := by decide +kernel
theorem dX6_becomes_41 : decode cX6_becomes 41 = .ok (.aload_n 0, 1) := by decide +kernel
theorem dX6_becomes_42 : decode cX6_becomes 42 = .ok (.invokevirtual 395, 3) := by decide +kernel
theorem dX6_becomes_45 : decode cX6_becomes 45 = .ok (.iconst 0, 1) := by decide +kernel
theorem dX6_becomes_46 : decode cX6_becomes 46 = .ok (.istore_n 2, 1) := by decide +kernel
theorem dX6_becomes_47 : decode cX6_becomes 47 = .ok (.iload_n 2, 1) := by decide +kernel
theorem dX6_becomes_48 : decode cX6_becomes 48 = .ok (.aload_n 0, 1) := by decide +kernel
theorem dX6_becomes_49 : decode cX6_becomes 49 = .ok (.getfield 255, 3) := by decide +kernel
theorem dX6_becomes_52 : decode cX6_becomes 52 = .ok (.if_icmp .ge 26, 3) := by decide +kernel
theorem dX6_becomes_55 : decode cX6_becomes 55 = .ok (.aload_n 0, 1) := by decide +kernel
theorem dX6_becomes_56 : decode cX6_becomes 56 = .ok (.getfield 47, 3) := by decide +kernel
theorem dX6_becomes_59 : decode cX6_becomes 59 = .ok (.bipush 25, 2) := by decide +kernel
theorem dX6_becomes_61 : decode cX6_becomes 61 = .ok (.iload_n 1, 1) := by decide +kernel
theorem dX6_becomes_62 : decode cX6_becomes 62 = .ok (.imul, 1) := by decide +kernel
theorem dX6_becomes_63 : decode cX6_becomes 63 = .ok (.iload_n 2, 1) := by decide +kernel
theorem dX6_becomes_64 : decode cX6_becomes 64 = .ok (.iadd, 1) := by decide +kernel
theorem dX6_becomes_65 : decode cX6_becomes 65 = .ok (.aload_n 0, 1) := by decide +kernel
theorem dX6_becomes_66 : decode cX6_becomes 66 = .ok (.getfield 74, 3) := by decide +kernel
theorem dX6_becomes_69 : decode cX6_becomes 69 = .ok (.iload_n 2, 1) := by decide +kernel
theorem dX6_becomes_70 : decode cX6_becomes 70 = .ok (.iaload, 1) := by decide +kernel
theorem dX6_becomes_71 : decode cX6_becomes 71 = .ok (.iastore, 1) := by decide +kernel
theorem dX6_becomes_72 : decode cX6_becomes 72 = .ok (.iinc 2 1, 3) := by decide +kernel
theorem dX6_becomes_75 : decode cX6_becomes 75 = .ok (.goto (-28), 3) := by decide +kernel
theorem dX6_becomes_78 : decode cX6_becomes 78 = .ok (.aload_n 0, 1) := by decide +kernel
theorem dX6_becomes_79 : decode cX6_becomes 79 = .ok (.iconst 0, 1) := by decide +kernel
theorem dX6_becomes_80 : decode cX6_becomes 80 = .ok (.invokevirtual 398, 3) := by decide +kernel
theorem dX6_becomes_83 : decode cX6_becomes 83 = .ok (.ireturn, 1) := by decide +kernel
theorem dX6_adds_0 : decode cX6_adds 0 = .ok (.aload_n 0, 1) := by decide +kernel
theorem dX6_adds_1 : decode cX6_adds 1 = .ok (.iconst 0, 1) := by decide +kernel
theorem dX6_adds_2 : decode cX6_adds 2 = .ok (.putfield 77, 3) := by decide +kernel
theorem dX6_adds_5 : decode cX6_adds 5 = .ok (.aload_n 0, 1) := by decide +kernel
theorem dX6_adds_6 : decode cX6_adds 6 = .ok (.iload_n 1, 1) := by decide +kernel
theorem dX6_adds_7 : decode cX6_adds 7 = .ok (.invokevirtual 328, 3) := by decide +kernel
theorem dX6_adds_10 : decode cX6_adds 10 = .ok (.ifCond .eq 11, 3) := by decide +kernel
theorem dX6_adds_13 : decode cX6_adds 13 = .ok (.aload_n 0, 1) := by decide +kernel
theorem dX6_adds_14 : decode cX6_adds 14 = .ok (.iload_n 2, 1) := by decide +kernel
theorem dX6_adds_15 : decode cX6_adds 15 = .ok (.invokevirtual 328, 3) := by decide +kernel
theorem dX6_adds_18 : decode cX6_adds 18 = .ok (.ifCond .ne 9, 3) := by decide +kernel
theorem dX6_adds_21 : decode cX6_adds 21 = .ok (.aload_n 0, 1) := by decide +kernel
theorem dX6_adds_22 : decode cX6_adds 22 = .ok (.iconst 1, 1) := by decide +kernel
theorem dX6_adds_23 : decode cX6_adds 23 = .ok (.invokevirtual 398, 3) := by decide +kernel
theorem dX6_adds_26 : decode cX6_adds 26 = .ok (.ireturn, 1) := by decide +kernel
theorem dX6_adds_27 : decode cX6_adds 27 = .ok (.iload_n 3, 1) := by decide +kernel
theorem dX6_adds_28 : decode cX6_adds 28 = .ok (.i2l, 1) := by decide +kernel
theorem dX6_adds_29 : decode cX6_adds 29 = .ok (.ldc2_w 401, 3) := by decide +kernel
theorem dX6_adds_32 : decode cX6_adds 32 = .ok (.ldc2_w 403, 3) := by decide +kernel
theorem dX6_adds_35 : decode cX6_adds 35 = .ok (.invokestatic 108, 3) := by decide +kernel
theorem dX6_adds_38 : decode cX6_adds 38 = .ok (.ifCond .ne 9, 3) := by decide +kernel
theorem dX6_adds_41 : decode cX6_adds 41 = .ok (.aload_n 0, 1) := by decide +kernel
theorem dX6_adds_42 : decode cX6_adds 42 = .ok (.iconst 2, 1) := by decide +kernel
theorem dX6_adds_43 : decode cX6_adds 43 = .ok (.invokevirtual 398, 3) := by decide +kernel
theorem dX6_adds_46 : decode cX6_adds 46 = .ok (.ireturn, 1) := by decide +kernel
theorem dX6_adds_47 : decode cX6_adds 47 = .ok (.iconst 0, 1) := by decide +kernel
theorem dX6_adds_48 : decode cX6_adds 48 = .ok (.istore 4, 2) := by decide +kernel
theorem dX6_adds_50 : decode cX6_adds 50 = .ok (.iload 4, 2) := by decide +kernel
theorem dX6_adds_52 : decode cX6_adds 52 = .ok (.aload_n 0, 1) := by decide +kernel
theorem dX6_adds_53 : decode cX6_adds 53 = .ok (.getfield 255, 3) := by decide +kernel
theorem dX6_adds_56 : decode cX6_adds 56 = .ok (.if_icmp .ge 43, 3) := by decide +kernel
theorem dX6_adds_59 : decode cX6_adds 59 = .ok (.aload_n 0, 1) := by decide +kernel
theorem dX6_adds_60 : decode cX6_adds 60 = .ok (.getfield 74, 3) := by decide +kernel
theorem dX6_adds_63 : decode cX6_adds 63 = .ok (.iload 4, 2) := by decide +kernel
theorem dX6_adds_65 : decode cX6_adds 65 = .ok (.aload_n 0, 1) := by decide +kernel
theorem dX6_adds_66 : decode cX6_adds 66 = .ok (.getfield 47, 3) := by decide +kernel
theorem dX6_adds_69 : decode cX6_adds 69 = .ok (.bipush 25, 2) := by decide +kernel
theorem dX6_adds_71 : decode cX6_adds 71 = .ok (.iload_n 1, 1) := by decide +kernel
theorem dX6_adds_72 : decode cX6_adds 72 = .ok (.imul, 1) := by decide +kernel
theorem dX6_adds_73 : decode cX6_adds 73 = .ok (.iload 4, 2) := by decide +kernel
theorem dX6_adds_75 : decode cX6_adds 75 = .ok (.iadd, 1) := by decide +kernel
theorem dX6_adds_76 : decode cX6_adds 76 = .ok (.iaload, 1) := by decide +kernel
theorem dX6_adds_77 : decode cX6_adds 77 = .ok (.iload_n 3, 1) := by decide +kernel
theorem dX6_adds_78 : decode cX6_adds 78 = .ok (.aload_n 0, 1) := by decide +kernel
theorem dX6_adds_79 : decode cX6_adds 79 = .ok (.getfield 47, 3) := by decide +kernel
theorem dX6_adds_82 : decode cX6_adds 82 = .ok (.bipush 25, 2) := by decide +kernel
theorem dX6_adds_84 : decode cX6_adds 84 = .ok (.iload_n 2, 1) := by decide +kernel
theorem dX6_adds_85 : decode cX6_adds 85 = .ok (.imul, 1) := by decide +kernel
theorem dX6_adds_86 : decode cX6_adds 86 = .ok (.iload 4, 2) := by decide +kernel
theorem dX6_adds_88 : decode cX6_adds 88 = .ok (.iadd, 1) := by decide +kernel
theorem dX6_adds_89 : decode cX6_adds 89 = .ok (.iaload, 1) := by decide +kernel
theorem dX6_adds_90 : decode cX6_adds 90 = .ok (.imul, 1) := by decide +kernel
theorem dX6_adds_91 : decode cX6_adds 91 = .ok (.iadd, 1) := by decide +kernel
theorem dX6_adds_92 : decode cX6_adds 92 = .ok (.iastore, 1) := by decide +kernel
theorem dX6_adds_93 : decode cX6_adds 93 = .ok (.iinc 4 1, 3) := by decide +kernel
theorem dX6_adds_96 : decode cX6_adds 96 = .ok (.goto (-46), 3) := by decide +kernel
theorem dX6_adds_99 : decode cX6_adds 99 = .ok (.aload_n 0, 1) := by decide +kernel
theorem dX6_adds_100 : decode cX6_adds 100 = .ok (.iload_n 1, 1) := by decide +kernel
theorem dX6_adds_101 : decode cX6_adds 101 = .ok (.invokevirtual 405, 3) := by decide +kernel
theorem dX6_adds_104 : decode cX6_adds 104 = .ok (.ireturn, 1) := by decide +kernel
theorem dX6_shifts_0 : decode cX6_shifts 0 = .ok (.aload_n 0, 1) := by decide +kernel
theorem dX6_shifts_1 : decode cX6_shifts 1 = .ok (.iconst 0, 1) := by decide +kernel
theorem dX6_shifts_2 : decode cX6_shifts 2 = .ok (.putfield 77, 3) := by decide +kernel
theorem dX6_shifts_5 : decode cX6_shifts 5 = .ok (.aload_n 0, 1) := by decide +kernel
theorem dX6_shifts_6 : decode cX6_shifts 6 = .ok (.iload_n 1, 1) := by decide +kernel
theorem dX6_shifts_7 : decode cX6_shifts 7 = .ok (.invokevirtual 328, 3) := by decide +kernel
theorem dX6_shifts_10 : decode cX6_shifts 10 = .ok (.ifCond .ne 9, 3) := by decide +kernel
theorem dX6_shifts_13 : decode cX6_shifts 13 = .ok (.aload_n 0, 1) := by decide +kernel
theorem dX6_shifts_14 : decode cX6_shifts 14 = .ok (.iconst 1, 1) := by decide +kernel
theorem dX6_shifts_15 : decode cX6_shifts 15 = .ok (.invokevirtual 398, 3) := by decide +kernel
theorem dX6_shifts_18 : decode cX6_shifts 18 = .ok (.ireturn, 1) := by decide +kernel
theorem dX6_shifts_19 : decode cX6_shifts 19 = .ok (.iload_n 2, 1) := by decide +kernel
theorem dX6_shifts_20 : decode cX6_shifts 20 = .ok (.i2l, 1) := by decide +kernel
theorem dX6_shifts_21 : decode cX6_shifts 21 = .ok (.ldc2_w 391, 3) := by decide +kernel
theorem dX6_shifts_24 : decode cX6_shifts 24 = .ok (.ldc2_w 393, 3) := by decide +kernel
theorem dX6_shifts_27 : decode cX6_shifts 27 = .ok (.invokestatic 108, 3) := by decide +kernel
theorem dX6_shifts_30 : decode cX6_shifts 30 = .ok (.ifCond .eq 17, 3) := by decide +kernel
theorem dX6_shifts_33 : decode cX6_shifts 33 = .ok (.iload_n 3, 1) := by decide +kernel
theorem dX6_shifts_34 : decode cX6_shifts 34 = .ok (.i2l, 1) := by decide +kernel
theorem dX6_shifts_35 : decode cX6_shifts 35 = .ok (.ldc2_w 391, 3) := by decide +kernel
theorem dX6_shifts_38 : decode cX6_shifts 38 = .ok (.ldc2_w 393, 3) := by decide +kernel
theorem dX6_shifts_41 : decode cX6_shifts 41 = .ok (.invokestatic 108, 3) := by decide +kernel
theorem dX6_shifts_44 : decode cX6_shifts 44 = .ok (.ifCond .ne 9, 3) := by decide +kernel
theorem dX6_shifts_47 : decode cX6_shifts 47 = .ok (.aload_n 0, 1) := by decide +kernel
theorem dX6_shifts_48 : decode cX6_shifts 48 = .ok (.iconst 2, 1) := by decide +kernel
theorem dX6_shifts_49 : decode cX6_shifts 49 = .ok (.invokevirtual 398, 3) := by decide +kernel
theorem dX6_shifts_52 : decode cX6_shifts 52 = .ok (.ireturn, 1) := by decide +kernel
theorem dX6_shifts_53 : decode cX6_shifts 53 = .ok (.iconst 0, 1) := by decide +kernel
theorem dX6_shifts_54 : decode cX6_shifts 54 = .ok (.istore 4, 2) := by decide +kernel
theorem dX6_shifts_56 : decode cX6_shifts 56 = .ok (.iload 4, 2) := by decide +kernel
theorem dX6_shifts_58 : decode cX6_shifts 58 = .ok (.aload_n 0, 1) := by decide +kernel
theorem dX6_shifts_59 : decode cX6_shifts 59 = .ok (.getfield 255, 3) := by decide +kernel
theorem dX6_shifts_62 : decode cX6_shifts 62 = .ok (.if_icmp .ge 48, 3) := by decide +kernel
theorem dX6_shifts_65 : decode cX6_shifts 65 = .ok (.aload_n 0, 1) := by decide +kernel
theorem dX6_shifts_66 : decode cX6_shifts 66 = .ok (.getfield 74, 3) := by decide +kernel
theorem dX6_shifts_69 : decode cX6_shifts 69 = .ok (.iload 4, 2) := by decide +kernel
theorem dX6_shifts_71 : decode cX6_shifts 71 = .ok (.aload_n 0, 1) := by decide +kernel
theorem dX6_shifts_72 : decode cX6_shifts 72 = .ok (.getfield 47, 3) := by decide +kernel
theorem dX6_shifts_75 : decode cX6_shifts 75 = .ok (.bipush 25, 2) := by decide +kernel
theorem dX6_shifts_77 : decode cX6_shifts 77 = .ok (.iload_n 1, 1) := by decide +kernel
theorem dX6_shifts_78 : decode cX6_shifts 78 = .ok (.imul, 1) := by decide +kernel
theorem dX6_shifts_79 : decode cX6_shifts 79 = .ok (.iload 4, 2) := by decide +kernel
theorem dX6_shifts_81 : decode cX6_shifts 81 = .ok (.iadd, 1) := by decide +kernel
theorem dX6_shifts_82 : decode cX6_shifts 82 = .ok (.iaload, 1) := by decide +kernel
theorem dX6_shifts_83 : decode cX6_shifts 83 = .ok (.iload_n 2, 1) := by decide +kernel
theorem dX6_shifts_84 : decode cX6_shifts 84 = .ok (.aload_n 0, 1) := by decide +kernel
theorem dX6_shifts_85 : decode cX6_shifts 85 = .ok (.getfield 41, 3) := by decide +kernel
theorem dX6_shifts_88 : decode cX6_shifts 88 = .ok (.iload 4, 2) := by decide +kernel
theorem dX6_shifts_90 : decode cX6_shifts 90 = .ok (.iaload, 1) := by decide +kernel
theorem dX6_shifts_91 : decode cX6_shifts 91 = .ok (.imul, 1) := by decide +kernel
theorem dX6_shifts_92 : decode cX6_shifts 92 = .ok (.iadd, 1) := by decide +kernel
theorem dX6_shifts_93 : decode cX6_shifts 93 = .ok (.iload_n 3, 1) := by decide +kernel
theorem dX6_shifts_94 : decode cX6_shifts 94 = .ok (.aload_n 0, 1) := by decide +kernel
theorem dX6_shifts_95 : decode cX6_shifts 95 = .ok (.getfield 44, 3) := by decide +kernel
theorem dX6_shifts_98 : decode cX6_shifts 98 = .ok (.iload 4, 2) := by decide +kernel
theorem dX6_shifts_100 : decode cX6_shifts 100 = .ok (.iaload, 1) := by decide +kernel
theorem dX6_shifts_101 : decode cX6_shifts 101 = .ok (.imul, 1) := by decide +kernel
theorem dX6_shifts_102 : decode cX6_shifts 102 = .ok (.iadd, 1) := by decide +kernel
theorem dX6_shifts_103 : decode cX6_shifts 103 = .ok (.iastore, 1) := by decide +kernel
theorem dX6_shifts_104 : decode cX6_shifts 104 = .ok (.iinc 4 1, 3) := by decide +kernel
theorem dX6_shifts_107 : decode cX6_shifts 107 = .ok (.goto (-51), 3) := by decide +kernel
theorem dX6_shifts_110 : decode cX6_shifts 110 = .ok (.aload_n 0, 1) := by decide +kernel
theorem dX6_shifts_111 : decode cX6_shifts 111 = .ok (.iload_n 1, 1) := by decide +kernel
theorem dX6_shifts_112 : decode cX6_shifts 112 = .ok (.invokevirtual 405, 3) := by decide +kernel
theorem dX6_shifts_115 : decode cX6_shifts 115 = .ok (.ireturn, 1) := by decide +kernel
theorem dX6_laysNew_0 : decode cX6_laysNew 0 = .ok (.iconst 0, 1) := by decide +kernel
theorem dX6_laysNew_1 : decode cX6_laysNew 1 = .ok (.istore 4, 2) := by decide +kernel
theorem dX6_laysNew_3 : decode cX6_laysNew 3 = .ok (.iload 4, 2) := by decide +kernel
theorem dX6_laysNew_5 : decode cX6_laysNew 5 = .ok (.bipush 6, 2) := by decide +kernel
theorem dX6_laysNew_7 : decode cX6_laysNew 7 = .ok (.if_icmp .ge 80, 3) := by decide +kernel
theorem dX6_laysNew_10 : decode cX6_laysNew 10 = .ok (.iload 4, 2) := by decide +kernel
theorem dX6_laysNew_12 : decode cX6_laysNew 12 = .ok (.aload_n 0, 1) := by decide +kernel
theorem dX6_laysNew_13 : decode cX6_laysNew 13 = .ok (.getfield 279, 3) := by decide +kernel
theorem dX6_laysNew_16 : decode cX6_laysNew 16 = .ok (.if_icmp .ge 32, 3) := by decide +kernel
theorem dX6_laysNew_19 : decode cX6_laysNew 19 = .ok (.iload_n 2, 1) := by decide +kernel
theorem dX6_laysNew_20 : decode cX6_laysNew 20 = .ok (.iload_n 3, 1) := by decide +kernel
theorem dX6_laysNew_21 : decode cX6_laysNew 21 = .ok (.invokestatic 322, 3) := by decide +kernel
theorem dX6_laysNew_24 : decode cX6_laysNew 24 = .ok (.ifCond .eq 24, 3) := by decide +kernel
theorem dX6_laysNew_27 : decode cX6_laysNew 27 = .ok (.aload_n 0, 1) := by decide +kernel
theorem dX6_laysNew_28 : decode cX6_laysNew 28 = .ok (.iload 4, 2) := by decide +kernel
theorem dX6_laysNew_30 : decode cX6_laysNew 30 = .ok (.iload_n 1, 1) := by decide +kernel
theorem dX6_laysNew_31 : decode cX6_laysNew 31 = .ok (.iload_n 2, 1) := by decide +kernel
theorem dX6_laysNew_32 : decode cX6_laysNew 32 = .ok (.iload_n 3, 1) := by decide +kernel
theorem dX6_laysNew_33 : decode cX6_laysNew 33 = .ok (.invokevirtual 335, 3) := by decide +kernel
theorem dX6_laysNew_36 : decode cX6_laysNew 36 = .ok (.aload_n 0, 1) := by decide +kernel
theorem dX6_laysNew_37 : decode cX6_laysNew 37 = .ok (.iload_n 1, 1) := by decide +kernel
theorem dX6_laysNew_38 : decode cX6_laysNew 38 = .ok (.invokevirtual 288, 3) := by decide +kernel
theorem dX6_laysNew_41 : decode cX6_laysNew 41 = .ok (.i2l, 1) := by decide +kernel
theorem dX6_laysNew_42 : decode cX6_laysNew 42 = .ok (.invokestatic 85, 3) := by decide +kernel
theorem dX6_laysNew_45 : decode cX6_laysNew 45 = .ok (.goto 4, 3) := by decide +kernel
theorem dX6_laysNew_48 : decode cX6_laysNew 48 = .ok (.lconst 0, 1) := by decide +kernel
theorem dX6_laysNew_49 : decode cX6_laysNew 49 = .ok (.lstore 5, 2) := by decide +kernel
theorem dX6_laysNew_51 : decode cX6_laysNew 51 = .ok (.aload_n 0, 1) := by decide +kernel
theorem dX6_laysNew_52 : decode cX6_laysNew 52 = .ok (.getfield 59, 3) := by decide +kernel
theorem dX6_laysNew_55 : decode cX6_laysNew 55 = .ok (.iload 4, 2) := by decide +kernel
theorem dX6_laysNew_57 : decode cX6_laysNew 57 = .ok (.lload 5, 2) := by decide +kernel
theorem dX6_laysNew_59 : decode cX6_laysNew 59 = .ok (.ldc2_w 247, 3) := by decide +kernel
theorem dX6_laysNew_62 : decode cX6_laysNew 62 = .ok (.ldc2_w 249, 3) := by decide +kernel
theorem dX6_laysNew_65 : decode cX6_laysNew 65 = .ok (.invokestatic 108, 3) := by decide +kernel
theorem dX6_laysNew_68 : decode cX6_laysNew 68 = .ok (.ifCond .eq 9, 3) := by decide +kernel
theorem dX6_laysNew_71 : decode cX6_laysNew 71 = .ok (.lload 5, 2) := by decide +kernel
theorem dX6_laysNew_73 : decode cX6_laysNew 73 = .ok (.l2i, 1) := by decide +kernel
theorem dX6_laysNew_74 : decode cX6_laysNew 74 = .ok (.goto 6, 3) := by decide +kernel
theorem dX6_laysNew_77 : decode cX6_laysNew 77 = .ok (.sipush 2001, 3) := by decide +kernel
theorem dX6_laysNew_80 : decode cX6_laysNew 80 = .ok (.iastore, 1) := by decide +kernel
theorem dX6_laysNew_81 : decode cX6_laysNew 81 = .ok (.iinc 4 1, 3) := by decide +kernel
theorem dX6_laysNew_84 : decode cX6_laysNew 84 = .ok (.goto (-81), 3) := by decide +kernel
theorem dX6_laysNew_87 : decode cX6_laysNew 87 = .ok (.aload_n 0, 1) := by decide +kernel
theorem dX6_laysNew_88 : decode cX6_laysNew 88 = .ok (.iload_n 2, 1) := by decide +kernel
theorem dX6_laysNew_89 : decode cX6_laysNew 89 = .ok (.iload_n 3, 1) := by decide +kernel
theorem dX6_laysNew_90 : decode cX6_laysNew 90 = .ok (.invokevirtual 251, 3) := by decide +kernel
theorem dX6_laysNew_93 : decode cX6_laysNew 93 = .ok (.return_, 1) := by decide +kernel
theorem dX6_placeOf_0 : decode cX6_placeOf 0 = .ok (.iconst 0, 1) := by decide +kernel
theorem dX6_placeOf_1 : decode cX6_placeOf 1 = .ok (.istore_n 3, 1) := by decide +kernel
theorem dX6_placeOf_2 : decode cX6_placeOf 2 = .ok (.aload_n 0, 1) := by decide +kernel
theorem dX6_placeOf_3 : decode cX6_placeOf 3 = .ok (.getfield 41, 3) := by decide +kernel
theorem dX6_placeOf_6 : decode cX6_placeOf 6 = .ok (.iload_n 3, 1) := by decide +kernel
theorem dX6_placeOf_7 : decode cX6_placeOf 7 = .ok (.iaload, 1) := by decide +kernel
theorem dX6_placeOf_8 : decode cX6_placeOf 8 = .ok (.iload_n 1, 1) := by decide +kernel
theorem dX6_placeOf_9 : decode cX6_placeOf 9 = .ok (.if_icmp .ne 13, 3) := by decide +kernel
theorem dX6_placeOf_12 : decode cX6_placeOf 12 = .ok (.aload_n 0, 1) := by decide +kernel
theorem dX6_placeOf_13 : decode cX6_placeOf 13 = .ok (.getfield 44, 3) := by decide +kernel
theorem dX6_placeOf_16 : decode cX6_placeOf 16 = .ok (.iload_n 3, 1) := by decide +kernel
theorem dX6_placeOf_17 : decode cX6_placeOf 17 = .ok (.iaload, 1) := by decide +kernel
theorem dX6_placeOf_18 : decode cX6_placeOf 18 = .ok (.iload_n 2, 1) := by decide +kernel
theorem dX6_placeOf_19 : decode cX6_placeOf 19 = .ok (.if_icmp .eq 9, 3) := by decide +kernel
theorem dX6_placeOf_22 : decode cX6_placeOf 22 = .ok (.iinc 3 1, 3) := by decide +kernel
theorem dX6_placeOf_25 : decode cX6_placeOf 25 = .ok (.goto (-23), 3) := by decide +kernel
theorem dX6_placeOf_28 : decode cX6_placeOf 28 = .ok (.iload_n 3, 1) := by decide +kernel
theorem dX6_placeOf_29 : decode cX6_placeOf 29 = .ok (.ireturn, 1) := by decide +kernel
theorem dX6_star_0 : decode cX6_star 0 = .ok (.aload_n 0, 1) := by decide +kernel
theorem dX6_star_1 : decode cX6_star 1 = .ok (.iconst 0, 1) := by decide +kernel
theorem dX6_star_2 : decode cX6_star 2 = .ok (.putfield 77, 3) := by decide +kernel
theorem dX6_star_5 : decode cX6_star 5 = .ok (.aload_n 0, 1) := by decide +kernel
theorem dX6_star_6 : decode cX6_star 6 = .ok (.iload_n 1, 1) := by decide +kernel
theorem dX6_star_7 : decode cX6_star 7 = .ok (.invokevirtual 308, 3) := by decide +kernel
theorem dX6_star_10 : decode cX6_star 10 = .ok (.ifCond .ne 9, 3) := by decide +kernel
theorem dX6_star_13 : decode cX6_star 13 = .ok (.aload_n 0, 1) := by decide +kernel
theorem dX6_star_14 : decode cX6_star 14 = .ok (.iconst 1, 1) := by decide +kernel
theorem dX6_star_15 : decode cX6_star 15 = .ok (.invokevirtual 267, 3) := by decide +kernel
theorem dX6_star_18 : decode cX6_star 18 = .ok (.ireturn, 1) := by decide +kernel
theorem dX6_star_19 : decode cX6_star 19 = .ok (.aload_n 0, 1) := by decide +kernel
theorem dX6_star_20 : decode cX6_star 20 = .ok (.getfield 41, 3) := by decide +kernel
theorem dX6_star_23 : decode cX6_star 23 = .ok (.iload_n 1, 1) := by decide +kernel
theorem dX6_star_24 : decode cX6_star 24 = .ok (.iaload, 1) := by decide +kernel
theorem dX6_star_25 : decode cX6_star 25 = .ok (.aload_n 0, 1) := by decide +kernel
theorem dX6_star_26 : decode cX6_star 26 = .ok (.getfield 41, 3) := by decide +kernel
theorem dX6_star_29 : decode cX6_star 29 = .ok (.aload_n 0, 1) := by decide +kernel
theorem dX6_star_30 : decode cX6_star 30 = .ok (.iload_n 1, 1) := by decide +kernel
theorem dX6_star_31 : decode cX6_star 31 = .ok (.invokevirtual 282, 3) := by decide +kernel
theorem dX6_star_34 : decode cX6_star 34 = .ok (.iaload, 1) := by decide +kernel
theorem dX6_star_35 : decode cX6_star 35 = .ok (.iadd, 1) := by decide +kernel
theorem dX6_star_36 : decode cX6_star 36 = .ok (.istore_n 2, 1) := by decide +kernel
theorem dX6_star_37 : decode cX6_star 37 = .ok (.aload_n 0, 1) := by decide +kernel
theorem dX6_star_38 : decode cX6_star 38 = .ok (.getfield 44, 3) := by decide +kernel
theorem dX6_star_41 : decode cX6_star 41 = .ok (.iload_n 1, 1) := by decide +kernel
theorem dX6_star_42 : decode cX6_star 42 = .ok (.iaload, 1) := by decide +kernel
theorem dX6_star_43 : decode cX6_star 43 = .ok (.aload_n 0, 1) := by decide +kernel
theorem dX6_star_44 : decode cX6_star 44 = .ok (.getfield 44, 3) := by decide +kernel
theorem dX6_star_47 : decode cX6_star 47 = .ok (.aload_n 0, 1) := by decide +kernel
theorem dX6_star_48 : decode cX6_star 48 = .ok (.iload_n 1, 1) := by decide +kernel
theorem dX6_star_49 : decode cX6_star 49 = .ok (.invokevirtual 282, 3) := by decide +kernel
theorem dX6_star_52 : decode cX6_star 52 = .ok (.iaload, 1) := by decide +kernel
theorem dX6_star_53 : decode cX6_star 53 = .ok (.iadd, 1) := by decide +kernel
theorem dX6_star_54 : decode cX6_star 54 = .ok (.istore_n 3, 1) := by decide +kernel
theorem dX6_star_55 : decode cX6_star 55 = .ok (.iload_n 2, 1) := by decide +kernel
theorem dX6_star_56 : decode cX6_star 56 = .ok (.i2l, 1) := by decide +kernel
theorem dX6_star_57 : decode cX6_star 57 = .ok (.iload_n 3, 1) := by decide +kernel
theorem dX6_star_58 : decode cX6_star 58 = .ok (.i2l, 1) := by decide +kernel
theorem dX6_star_59 : decode cX6_star 59 = .ok (.invokestatic 202, 3) := by decide +kernel
theorem dX6_star_62 : decode cX6_star 62 = .ok (.l2i, 1) := by decide +kernel
theorem dX6_star_63 : decode cX6_star 63 = .ok (.istore 4, 2) := by decide +kernel
theorem dX6_star_65 : decode cX6_star 65 = .ok (.aload_n 0, 1) := by decide +kernel
theorem dX6_star_66 : decode cX6_star 66 = .ok (.iconst (-1), 1) := by decide +kernel
theorem dX6_star_67 : decode cX6_star 67 = .ok (.invokevirtual 408, 3) := by decide +kernel
theorem dX6_star_70 : decode cX6_star 70 = .ok (.aload_n 0, 1) := by decide +kernel
theorem dX6_star_71 : decode cX6_star 71 = .ok (.iload_n 1, 1) := by decide +kernel
theorem dX6_star_72 : decode cX6_star 72 = .ok (.iload_n 2, 1) := by decide +kernel
theorem dX6_star_73 : decode cX6_star 73 = .ok (.iload 4, 2) := by decide +kernel
theorem dX6_star_75 : decode cX6_star 75 = .ok (.idiv, 1) := by decide +kernel
theorem dX6_star_76 : decode cX6_star 76 = .ok (.iload_n 3, 1) := by decide +kernel
theorem dX6_star_77 : decode cX6_star 77 = .ok (.iload 4, 2) := by decide +kernel
theorem dX6_star_79 : decode cX6_star 79 = .ok (.idiv, 1) := by decide +kernel
theorem dX6_star_80 : decode cX6_star 80 = .ok (.invokevirtual 411, 3) := by decide +kernel
theorem dX6_star_83 : decode cX6_star 83 = .ok (.aload_n 0, 1) := by decide +kernel
theorem dX6_star_84 : decode cX6_star 84 = .ok (.getfield 239, 3) := by decide +kernel
theorem dX6_star_87 : decode cX6_star 87 = .ok (.ifCond .ne 9, 3) := by decide +kernel
theorem dX6_star_90 : decode cX6_star 90 = .ok (.aload_n 0, 1) := by decide +kernel
theorem dX6_star_91 : decode cX6_star 91 = .ok (.iconst 3, 1) := by decide +kernel
theorem dX6_star_92 : decode cX6_star 92 = .ok (.invokevirtual 267, 3) := by decide +kernel
theorem dX6_star_95 : decode cX6_star 95 = .ok (.ireturn, 1) := by decide +kernel
theorem dX6_star_96 : decode cX6_star 96 = .ok (.aload_n 0, 1) := by decide +kernel
theorem dX6_star_97 : decode cX6_star 97 = .ok (.invokevirtual 395, 3) := by decide +kernel
theorem dX6_star_100 : decode cX6_star 100 = .ok (.aload_n 0, 1) := by decide +kernel
theorem dX6_star_101 : decode cX6_star 101 = .ok (.invokevirtual 276, 3) := by decide +kernel
theorem dX6_star_104 : decode cX6_star 104 = .ok (.aload_n 0, 1) := by decide +kernel
theorem dX6_star_105 : decode cX6_star 105 = .ok (.aload_n 0, 1) := by decide +kernel
theorem dX6_star_106 : decode cX6_star 106 = .ok (.iload_n 2, 1) := by decide +kernel
theorem dX6_star_107 : decode cX6_star 107 = .ok (.iload 4, 2) := by decide +kernel
theorem dX6_star_109 : decode cX6_star 109 = .ok (.idiv, 1) := by decide +kernel
theorem dX6_star_110 : decode cX6_star 110 = .ok (.iload_n 3, 1) := by decide +kernel
theorem dX6_star_111 : decode cX6_star 111 = .ok (.iload 4, 2) := by decide +kernel
theorem dX6_star_113 : decode cX6_star 113 = .ok (.idiv, 1) := by decide +kernel
theorem dX6_star_114 : decode cX6_star 114 = .ok (.invokevirtual 415, 3) := by decide +kernel
theorem dX6_star_117 : decode cX6_star 117 = .ok (.invokevirtual 270, 3) := by decide +kernel
theorem dX6_star_120 : decode cX6_star 120 = .ok (.ireturn, 1) := by decide +kernel
theorem dX6_cuts_0 : decode cX6_cuts 0 = .ok (.aload_n 0, 1) := by decide +kernel
theorem dX6_cuts_1 : decode cX6_cuts 1 = .ok (.iload_n 1, 1) := by decide +kernel
theorem dX6_cuts_2 : decode cX6_cuts 2 = .ok (.invokevirtual 288, 3) := by decide +kernel
theorem dX6_cuts_5 : decode cX6_cuts 5 = .ok (.istore_n 2, 1) := by decide +kernel
theorem dX6_cuts_6 : decode cX6_cuts 6 = .ok (.iload_n 2, 1) := by decide +kernel
theorem dX6_cuts_7 : decode cX6_cuts 7 = .ok (.iconst 1, 1) := by decide +kernel
theorem dX6_cuts_8 : decode cX6_cuts 8 = .ok (.if_icmp .ne 4, 3) := by decide +kernel
theorem dX6_cuts_11 : decode cX6_cuts 11 = .ok (.return_, 1) := by decide +kernel
theorem dX6_cuts_12 : decode cX6_cuts 12 = .ok (.aload_n 0, 1) := by decide +kernel
theorem dX6_cuts_13 : decode cX6_cuts 13 = .ok (.iload_n 1, 1) := by decide +kernel
theorem dX6_cuts_14 : decode cX6_cuts 14 = .ok (.invokevirtual 305, 3) := by decide +kernel
theorem dX6_cuts_17 : decode cX6_cuts 17 = .ok (.istore_n 3, 1) := by decide +kernel
theorem dX6_cuts_18 : decode cX6_cuts 18 = .ok (.aload_n 0, 1) := by decide +kernel
theorem dX6_cuts_19 : decode cX6_cuts 19 = .ok (.iload_n 1, 1) := by decide +kernel
theorem dX6_cuts_20 : decode cX6_cuts 20 = .ok (.invokevirtual 282, 3) := by decide +kernel
theorem dX6_cuts_23 : decode cX6_cuts 23 = .ok (.istore 4, 2) := by decide +kernel
theorem dX6_cuts_25 : decode cX6_cuts 25 = .ok (.aload_n 0, 1) := by decide +kernel
theorem dX6_cuts_26 : decode cX6_cuts 26 = .ok (.getfield 41, 3) := by decide +kernel
theorem dX6_cuts_29 : decode cX6_cuts 29 = .ok (.iload_n 1, 1) := by decide +kernel
theorem dX6_cuts_30 : decode cX6_cuts 30 = .ok (.iaload, 1) := by decide +kernel
theorem dX6_cuts_31 : decode cX6_cuts 31 = .ok (.istore 5, 2) := by decide +kernel
theorem dX6_cuts_33 : decode cX6_cuts 33 = .ok (.aload_n 0, 1) := by decide +kernel
theorem dX6_cuts_34 : decode cX6_cuts 34 = .ok (.getfield 44, 3) := by decide +kernel
theorem dX6_cuts_37 : decode cX6_cuts 37 = .ok (.iload_n 1, 1) := by decide +kernel
theorem dX6_cuts_38 : decode cX6_cuts 38 = .ok (.iaload, 1) := by decide +kernel
theorem dX6_cuts_39 : decode cX6_cuts 39 = .ok (.istore 6, 2) := by decide +kernel
theorem dX6_cuts_41 : decode cX6_cuts 41 = .ok (.iload_n 3, 1) := by decide +kernel
theorem dX6_cuts_42 : decode cX6_cuts 42 = .ok (.iload 5, 2) := by decide +kernel
theorem dX6_cuts_44 : decode cX6_cuts 44 = .ok (.imul, 1) := by decide +kernel
theorem dX6_cuts_45 : decode cX6_cuts 45 = .ok (.aload_n 0, 1) := by decide +kernel
theorem dX6_cuts_46 : decode cX6_cuts 46 = .ok (.getfield 41, 3) := by decide +kernel
theorem dX6_cuts_49 : decode cX6_cuts 49 = .ok (.iload 4, 2) := by decide +kernel
theorem dX6_cuts_51 : decode cX6_cuts 51 = .ok (.iaload, 1) := by decide +kernel
theorem dX6_cuts_52 : decode cX6_cuts 52 = .ok (.iadd, 1) := by decide +kernel
theorem dX6_cuts_53 : decode cX6_cuts 53 = .ok (.iload_n 2, 1) := by decide +kernel
theorem dX6_cuts_54 : decode cX6_cuts 54 = .ok (.idiv, 1) := by decide +kernel
theorem dX6_cuts_55 : decode cX6_cuts 55 = .ok (.istore 7, 2) := by decide +kernel
theorem dX6_cuts_57 : decode cX6_cuts 57 = .ok (.iload_n 3, 1) := by decide +kernel
theorem dX6_cuts_58 : decode cX6_cuts 58 = .ok (.iload 6, 2) := by decide +kernel
theorem dX6_cuts_60 : decode cX6_cuts 60 = .ok (.imul, 1) := by decide +kernel
theorem dX6_cuts_61 : decode cX6_cuts 61 = .ok (.aload_n 0, 1) := by decide +kernel
theorem dX6_cuts_62 : decode cX6_cuts 62 = .ok (.getfield 44, 3) := by decide +kernel
theorem dX6_cuts_65 : decode cX6_cuts 65 = .ok (.iload 4, 2) := by decide +kernel
theorem dX6_cuts_67 : decode cX6_cuts 67 = .ok (.iaload, 1) := by decide +kernel
theorem dX6_cuts_68 : decode cX6_cuts 68 = .ok (.iadd, 1) := by decide +kernel
theorem dX6_cuts_69 : decode cX6_cuts 69 = .ok (.iload_n 2, 1) := by decide +kernel
theorem dX6_cuts_70 : decode cX6_cuts 70 = .ok (.idiv, 1) := by decide +kernel
theorem dX6_cuts_71 : decode cX6_cuts 71 = .ok (.istore 8, 2) := by decide +kernel
theorem dX6_cuts_73 : decode cX6_cuts 73 = .ok (.aload_n 0, 1) := by decide +kernel
theorem dX6_cuts_74 : decode cX6_cuts 74 = .ok (.iload_n 1, 1) := by decide +kernel
theorem dX6_cuts_75 : decode cX6_cuts 75 = .ok (.iconst (-1), 1) := by decide +kernel
theorem dX6_cuts_76 : decode cX6_cuts 76 = .ok (.invokevirtual 319, 3) := by decide +kernel
theorem dX6_cuts_79 : decode cX6_cuts 79 = .ok (.istore 9, 2) := by decide +kernel
theorem dX6_cuts_81 : decode cX6_cuts 81 = .ok (.iconst 0, 1) := by decide +kernel
theorem dX6_cuts_82 : decode cX6_cuts 82 = .ok (.istore 10, 2) := by decide +kernel
theorem dX6_cuts_84 : decode cX6_cuts 84 = .ok (.iload 10, 2) := by decide +kernel
theorem dX6_cuts_86 : decode cX6_cuts 86 = .ok (.iload 9, 2) := by decide +kernel
theorem dX6_cuts_88 : decode cX6_cuts 88 = .ok (.if_icmp .ge 70, 3) := by decide +kernel
theorem dX6_cuts_91 : decode cX6_cuts 91 = .ok (.aload_n 0, 1) := by decide +kernel
theorem dX6_cuts_92 : decode cX6_cuts 92 = .ok (.getfield 239, 3) := by decide +kernel
theorem dX6_cuts_95 : decode cX6_cuts 95 = .ok (.ifCond .eq 63, 3) := by decide +kernel
theorem dX6_cuts_98 : decode cX6_cuts 98 = .ok (.aload_n 0, 1) := by decide +kernel
theorem dX6_cuts_99 : decode cX6_cuts 99 = .ok (.iload_n 1, 1) := by decide +kernel
theorem dX6_cuts_100 : decode cX6_cuts 100 = .ok (.iload 7, 2) := by decide +kernel
theorem dX6_cuts_102 : decode cX6_cuts 102 = .ok (.iload 8, 2) := by decide +kernel
theorem dX6_cuts_104 : decode cX6_cuts 104 = .ok (.invokevirtual 411, 3) := by decide +kernel
theorem dX6_cuts_107 : decode cX6_cuts 107 = .ok (.aload_n 0, 1) := by decide +kernel
theorem dX6_cuts_108 : decode cX6_cuts 108 = .ok (.iload_n 1, 1) := by decide +kernel
theorem dX6_cuts_109 : decode cX6_cuts 109 = .ok (.iload 10, 2) := by decide +kernel
theorem dX6_cuts_111 : decode cX6_cuts 111 = .ok (.invokevirtual 319, 3) := by decide +kernel
theorem dX6_cuts_114 : decode cX6_cuts 114 = .ok (.istore 11, 2) := by decide +kernel
theorem dX6_cuts_116 : decode cX6_cuts 116 = .ok (.iload 11, 2) := by decide +kernel
theorem dX6_cuts_118 : decode cX6_cuts 118 = .ok (.iload 7, 2) := by decide +kernel
theorem dX6_cuts_120 : decode cX6_cuts 120 = .ok (.imul, 1) := by decide +kernel
theorem dX6_cuts_121 : decode cX6_cuts 121 = .ok (.iload 5, 2) := by decide +kernel
theorem dX6_cuts_123 : decode cX6_cuts 123 = .ok (.isub, 1) := by decide +kernel
theorem dX6_cuts_124 : decode cX6_cuts 124 = .ok (.istore 12, 2) := by decide +kernel
theorem dX6_cuts_126 : decode cX6_cuts 126 = .ok (.iload 11, 2) := by decide +kernel
theorem dX6_cuts_128 : decode cX6_cuts 128 = .ok (.iload 8, 2) := by decide +kernel
theorem dX6_cuts_130 : decode cX6_cuts 130 = .ok (.imul, 1) := by decide +kernel
theorem dX6_cuts_131 : decode cX6_cuts 131 = .ok (.iload 6, 2) := by decide +kernel
theorem dX6_cuts_133 : decode cX6_cuts 133 = .ok (.isub, 1) := by decide +kernel
theorem dX6_cuts_134 : decode cX6_cuts 134 = .ok (.istore 13, 2) := by decide +kernel
theorem dX6_cuts_136 : decode cX6_cuts 136 = .ok (.iload 7, 2) := by decide +kernel
theorem dX6_cuts_138 : decode cX6_cuts 138 = .ok (.istore 5, 2) := by decide +kernel
theorem dX6_cuts_140 : decode cX6_cuts 140 = .ok (.iload 8, 2) := by decide +kernel
theorem dX6_cuts_142 : decode cX6_cuts 142 = .ok (.istore 6, 2) := by decide +kernel
theorem dX6_cuts_144 : decode cX6_cuts 144 = .ok (.iload 12, 2) := by decide +kernel
theorem dX6_cuts_146 : decode cX6_cuts 146 = .ok (.istore 7, 2) := by decide +kernel
theorem dX6_cuts_148 : decode cX6_cuts 148 = .ok (.iload 13, 2) := by decide +kernel
theorem dX6_cuts_150 : decode cX6_cuts 150 = .ok (.istore 8, 2) := by decide +kernel
theorem dX6_cuts_152 : decode cX6_cuts 152 = .ok (.iinc 10 1, 3) := by decide +kernel
theorem dX6_cuts_155 : decode cX6_cuts 155 = .ok (.goto (-71), 3) := by decide +kernel
theorem dX6_cuts_158 : decode cX6_cuts 158 = .ok (.return_, 1) := by decide +kernel
theorem dX6_comes_0 : decode cX6_comes 0 = .ok (.aload_n 0, 1) := by decide +kernel
theorem dX6_comes_1 : decode cX6_comes 1 = .ok (.getfield 239, 3) := by decide +kernel
theorem dX6_comes_4 : decode cX6_comes 4 = .ok (.ifCond .ne 9, 3) := by decide +kernel
theorem dX6_comes_7 : decode cX6_comes 7 = .ok (.aload_n 0, 1) := by decide +kernel
theorem dX6_comes_8 : decode cX6_comes 8 = .ok (.iconst 3, 1) := by decide +kernel
theorem dX6_comes_9 : decode cX6_comes 9 = .ok (.invokevirtual 267, 3) := by decide +kernel
theorem dX6_comes_12 : decode cX6_comes 12 = .ok (.ireturn, 1) := by decide +kernel
theorem dX6_comes_13 : decode cX6_comes 13 = .ok (.aload_n 0, 1) := by decide +kernel
theorem dX6_comes_14 : decode cX6_comes 14 = .ok (.getfield 224, 3) := by decide +kernel
theorem dX6_comes_17 : decode cX6_comes 17 = .ok (.aload_n 0, 1) := by decide +kernel
theorem dX6_comes_18 : decode cX6_comes 18 = .ok (.getfield 255, 3) := by decide +kernel
theorem dX6_comes_21 : decode cX6_comes 21 = .ok (.isub, 1) := by decide +kernel
theorem dX6_comes_22 : decode cX6_comes 22 = .ok (.istore_n 1, 1) := by decide +kernel
theorem dX6_comes_23 : decode cX6_comes 23 = .ok (.aload_n 0, 1) := by decide +kernel
theorem dX6_comes_24 : decode cX6_comes 24 = .ok (.invokevirtual 395, 3) := by decide +kernel
theorem dX6_comes_27 : decode cX6_comes 27 = .ok (.aload_n 0, 1) := by decide +kernel
theorem dX6_comes_28 : decode cX6_comes 28 = .ok (.invokevirtual 276, 3) := by decide +kernel
theorem dX6_comes_31 : decode cX6_comes 31 = .ok (.aload_n 0, 1) := by decide +kernel
theorem dX6_comes_32 : decode cX6_comes 32 = .ok (.iload_n 1, 1) := by decide +kernel
theorem dX6_comes_33 : decode cX6_comes 33 = .ok (.invokevirtual 270, 3) := by decide +kernel
theorem dX6_comes_36 : decode cX6_comes 36 = .ok (.ireturn, 1) := by decide +kernel
theorem dX6_cut_0 : decode cX6_cut 0 = .ok (.aload_n 0, 1) := by decide +kernel
theorem dX6_cut_1 : decode cX6_cut 1 = .ok (.iconst 0, 1) := by decide +kernel
theorem dX6_cut_2 : decode cX6_cut 2 = .ok (.putfield 77, 3) := by decide +kernel
theorem dX6_cut_5 : decode cX6_cut 5 = .ok (.aload_n 0, 1) := by decide +kernel
theorem dX6_cut_6 : decode cX6_cut 6 = .ok (.iload_n 1, 1) := by decide +kernel
theorem dX6_cut_7 : decode cX6_cut 7 = .ok (.invokevirtual 308, 3) := by decide +kernel
theorem dX6_cut_10 : decode cX6_cut 10 = .ok (.ifCond .ne 9, 3) := by decide +kernel
theorem dX6_cut_13 : decode cX6_cut 13 = .ok (.aload_n 0, 1) := by decide +kernel
theorem dX6_cut_14 : decode cX6_cut 14 = .ok (.iconst 1, 1) := by decide +kernel
theorem dX6_cut_15 : decode cX6_cut 15 = .ok (.invokevirtual 267, 3) := by decide +kernel
theorem dX6_cut_18 : decode cX6_cut 18 = .ok (.ireturn, 1) := by decide +kernel
theorem dX6_cut_19 : decode cX6_cut 19 = .ok (.aload_n 0, 1) := by decide +kernel
theorem dX6_cut_20 : decode cX6_cut 20 = .ok (.iconst (-1), 1) := by decide +kernel
theorem dX6_cut_21 : decode cX6_cut 21 = .ok (.invokevirtual 408, 3) := by decide +kernel
theorem dX6_cut_24 : decode cX6_cut 24 = .ok (.aload_n 0, 1) := by decide +kernel
theorem dX6_cut_25 : decode cX6_cut 25 = .ok (.iload_n 1, 1) := by decide +kernel
theorem dX6_cut_26 : decode cX6_cut 26 = .ok (.invokevirtual 418, 3) := by decide +kernel
theorem dX6_cut_29 : decode cX6_cut 29 = .ok (.aload_n 0, 1) := by decide +kernel
theorem dX6_cut_30 : decode cX6_cut 30 = .ok (.invokevirtual 421, 3) := by decide +kernel
theorem dX6_cut_33 : decode cX6_cut 33 = .ok (.ireturn, 1) := by decide +kernel
theorem dX6_cutAll_0 : decode cX6_cutAll 0 = .ok (.aload_n 0, 1) := by decide +kernel
theorem dX6_cutAll_1 : decode cX6_cutAll 1 = .ok (.iconst 0, 1) := by decide +kernel
theorem dX6_cutAll_2 : decode cX6_cutAll 2 = .ok (.putfield 77, 3) := by decide +kernel
theorem dX6_cutAll_5 : decode cX6_cutAll 5 = .ok (.aload_n 0, 1) := by decide +kernel
theorem dX6_cutAll_6 : decode cX6_cutAll 6 = .ok (.getfield 264, 3) := by decide +kernel
theorem dX6_cutAll_9 : decode cX6_cutAll 9 = .ok (.ifCond .ne 9, 3) := by decide +kernel
theorem dX6_cutAll_12 : decode cX6_cutAll 12 = .ok (.aload_n 0, 1) := by decide +kernel
theorem dX6_cutAll_13 : decode cX6_cutAll 13 = .ok (.iconst 1, 1) := by decide +kernel
theorem dX6_cutAll_14 : decode cX6_cutAll 14 = .ok (.invokevirtual 267, 3) := by decide +kernel
theorem dX6_cutAll_17 : decode cX6_cutAll 17 = .ok (.ireturn, 1) := by decide +kernel
theorem dX6_cutAll_18 : decode cX6_cutAll 18 = .ok (.aload_n 0, 1) := by decide +kernel
theorem dX6_cutAll_19 : decode cX6_cutAll 19 = .ok (.iconst (-1), 1) := by decide +kernel
theorem dX6_cutAll_20 : decode cX6_cutAll 20 = .ok (.invokevirtual 408, 3) := by decide +kernel
theorem dX6_cutAll_23 : decode cX6_cutAll 23 = .ok (.iconst 0, 1) := by decide +kernel
theorem dX6_cutAll_24 : decode cX6_cutAll 24 = .ok (.istore_n 1, 1) := by decide +kernel
theorem dX6_cutAll_25 : decode cX6_cutAll 25 = .ok (.iload_n 1, 1) := by decide +kernel
theorem dX6_cutAll_26 : decode cX6_cutAll 26 = .ok (.aload_n 0, 1) := by decide +kernel
theorem dX6_cutAll_27 : decode cX6_cutAll 27 = .ok (.getfield 255, 3) := by decide +kernel
theorem dX6_cutAll_30 : decode cX6_cutAll 30 = .ok (.if_icmp .ge 21, 3) := by decide +kernel
theorem dX6_cutAll_33 : decode cX6_cutAll 33 = .ok (.aload_n 0, 1) := by decide +kernel
theorem dX6_cutAll_34 : decode cX6_cutAll 34 = .ok (.getfield 239, 3) := by decide +kernel
theorem dX6_cutAll_37 : decode cX6_cutAll 37 = .ok (.ifCond .eq 14, 3) := by decide +kernel
theorem dX6_cutAll_40 : decode cX6_cutAll 40 = .ok (.aload_n 0, 1) := by decide +kernel
theorem dX6_cutAll_41 : decode cX6_cutAll 41 = .ok (.iload_n 1, 1) := by decide +kernel
theorem dX6_cutAll_42 : decode cX6_cutAll 42 = .ok (.invokevirtual 418, 3) := by decide +kernel
theorem dX6_cutAll_45 : decode cX6_cutAll 45 = .ok (.iinc 1 1, 3) := by decide +kernel
theorem dX6_cutAll_48 : decode cX6_cutAll 48 = .ok (.goto (-23), 3) := by decide +kernel
theorem dX6_cutAll_51 : decode cX6_cutAll 51 = .ok (.aload_n 0, 1) := by decide +kernel
theorem dX6_cutAll_52 : decode cX6_cutAll 52 = .ok (.invokevirtual 421, 3) := by decide +kernel
theorem dX6_cutAll_55 : decode cX6_cutAll 55 = .ok (.ireturn, 1) := by decide +kernel
theorem dX6_drop_0 : decode cX6_drop 0 = .ok (.aload_n 0, 1) := by decide +kernel
theorem dX6_drop_1 : decode cX6_drop 1 = .ok (.iconst 0, 1) := by decide +kernel
theorem dX6_drop_2 : decode cX6_drop 2 = .ok (.putfield 77, 3) := by decide +kernel
theorem dX6_drop_5 : decode cX6_drop 5 = .ok (.aload_n 0, 1) := by decide +kernel
theorem dX6_drop_6 : decode cX6_drop 6 = .ok (.iload_n 1, 1) := by decide +kernel
theorem dX6_drop_7 : decode cX6_drop 7 = .ok (.invokevirtual 308, 3) := by decide +kernel
theorem dX6_drop_10 : decode cX6_drop 10 = .ok (.ifCond .ne 9, 3) := by decide +kernel
theorem dX6_drop_13 : decode cX6_drop 13 = .ok (.aload_n 0, 1) := by decide +kernel
theorem dX6_drop_14 : decode cX6_drop 14 = .ok (.iconst 1, 1) := by decide +kernel
theorem dX6_drop_15 : decode cX6_drop 15 = .ok (.invokevirtual 267, 3) := by decide +kernel
theorem dX6_drop_18 : decode cX6_drop 18 = .ok (.ireturn, 1) := by decide +kernel
theorem dX6_drop_19 : decode cX6_drop 19 = .ok (.aload_n 0, 1) := by decide +kernel
theorem dX6_drop_20 : decode cX6_drop 20 = .ok (.iload_n 1, 1) := by decide +kernel
theorem dX6_drop_21 : decode cX6_drop 21 = .ok (.invokevirtual 296, 3) := by decide +kernel
theorem dX6_drop_24 : decode cX6_drop 24 = .ok (.ifCond .ne 9, 3) := by decide +kernel
theorem dX6_drop_27 : decode cX6_drop 27 = .ok (.aload_n 0, 1) := by decide +kernel
theorem dX6_drop_28 : decode cX6_drop 28 = .ok (.iconst 5, 1) := by decide +kernel
theorem dX6_drop_29 : decode cX6_drop 29 = .ok (.invokevirtual 267, 3) := by decide +kernel
theorem dX6_drop_32 : decode cX6_drop 32 = .ok (.ireturn, 1) := by decide +kernel
theorem dX6_drop_33 : decode cX6_drop 33 = .ok (.aload_n 0, 1) := by decide +kernel
theorem dX6_drop_34 : decode cX6_drop 34 = .ok (.invokevirtual 395, 3) := by decide +kernel
theorem dX6_drop_37 : decode cX6_drop 37 = .ok (.aload_n 0, 1) := by decide +kernel
theorem dX6_drop_38 : decode cX6_drop 38 = .ok (.iload_n 1, 1) := by decide +kernel
theorem dX6_drop_39 : decode cX6_drop 39 = .ok (.invokevirtual 408, 3) := by decide +kernel
theorem dX6_drop_42 : decode cX6_drop 42 = .ok (.aload_n 0, 1) := by decide +kernel
theorem dX6_drop_43 : decode cX6_drop 43 = .ok (.invokevirtual 276, 3) := by decide +kernel
theorem dX6_drop_46 : decode cX6_drop 46 = .ok (.aload_n 0, 1) := by decide +kernel
theorem dX6_drop_47 : decode cX6_drop 47 = .ok (.aload_n 0, 1) := by decide +kernel
theorem dX6_drop_48 : decode cX6_drop 48 = .ok (.getfield 255, 3) := by decide +kernel
theorem dX6_drop_51 : decode cX6_drop 51 = .ok (.invokevirtual 270, 3) := by decide +kernel
theorem dX6_drop_54 : decode cX6_drop 54 = .ok (.ireturn, 1) := by decide +kernel
theorem dX6_light_0 : decode cX6_light 0 = .ok (.iconst 0, 1) := by decide +kernel
theorem dX6_light_1 : decode cX6_light 1 = .ok (.istore_n 1, 1) := by decide +kernel
theorem dX6_light_2 : decode cX6_light 2 = .ok (.iload_n 1, 1) := by decide +kernel
theorem dX6_light_3 : decode cX6_light 3 = .ok (.aload_n 0, 1) := by decide +kernel
theorem dX6_light_4 : decode cX6_light 4 = .ok (.getfield 255, 3) := by decide +kernel
theorem dX6_light_7 : decode cX6_light 7 = .ok (.if_icmp .ge 19, 3) := by decide +kernel
theorem dX6_light_10 : decode cX6_light 10 = .ok (.aload_n 0, 1) := by decide +kernel
theorem dX6_light_11 : decode cX6_light 11 = .ok (.iload_n 1, 1) := by decide +kernel
theorem dX6_light_12 : decode cX6_light 12 = .ok (.invokevirtual 299, 3) := by decide +kernel
theorem dX6_light_15 : decode cX6_light 15 = .ok (.ifCond .eq 5, 3) := by decide +kernel
theorem dX6_light_18 : decode cX6_light 18 = .ok (.iload_n 1, 1) := by decide +kernel
theorem dX6_light_19 : decode cX6_light 19 = .ok (.ireturn, 1) := by decide +kernel
theorem dX6_light_20 : decode cX6_light 20 = .ok (.iinc 1 1, 3) := by decide +kernel
theorem dX6_light_23 : decode cX6_light 23 = .ok (.goto (-21), 3) := by decide +kernel
theorem dX6_light_26 : decode cX6_light 26 = .ok (.iconst (-1), 1) := by decide +kernel
theorem dX6_light_27 : decode cX6_light 27 = .ok (.ireturn, 1) := by decide +kernel
theorem dX6_lean_0 : decode cX6_lean 0 = .ok (.aload_n 0, 1) := by decide +kernel
theorem dX6_lean_1 : decode cX6_lean 1 = .ok (.iconst 0, 1) := by decide +kernel
theorem dX6_lean_2 : decode cX6_lean 2 = .ok (.putfield 77, 3) := by decide +kernel
theorem dX6_lean_5 : decode cX6_lean 5 = .ok (.aload_n 0, 1) := by decide +kernel
theorem dX6_lean_6 : decode cX6_lean 6 = .ok (.getfield 264, 3) := by decide +kernel
theorem dX6_lean_9 : decode cX6_lean 9 = .ok (.ifCond .ne 9, 3) := by decide +kernel
theorem dX6_lean_12 : decode cX6_lean 12 = .ok (.aload_n 0, 1) := by decide +kernel
theorem dX6_lean_13 : decode cX6_lean 13 = .ok (.iconst 1, 1) := by decide +kernel
theorem dX6_lean_14 : decode cX6_lean 14 = .ok (.invokevirtual 267, 3) := by decide +kernel
theorem dX6_lean_17 : decode cX6_lean 17 = .ok (.ireturn, 1) := by decide +kernel
theorem dX6_lean_18 : decode cX6_lean 18 = .ok (.aload_n 0, 1) := by decide +kernel
theorem dX6_lean_19 : decode cX6_lean 19 = .ok (.invokevirtual 395, 3) := by decide +kernel
theorem dX6_lean_22 : decode cX6_lean 22 = .ok (.iconst 0, 1) := by decide +kernel
theorem dX6_lean_23 : decode cX6_lean 23 = .ok (.istore_n 1, 1) := by decide +kernel
theorem dX6_lean_24 : decode cX6_lean 24 = .ok (.aload_n 0, 1) := by decide +kernel
theorem dX6_lean_25 : decode cX6_lean 25 = .ok (.invokevirtual 424, 3) := by decide +kernel
theorem dX6_lean_28 : decode cX6_lean 28 = .ok (.istore_n 2, 1) := by decide +kernel
theorem dX6_lean_29 : decode cX6_lean 29 = .ok (.iload_n 2, 1) := by decide +kernel
theorem dX6_lean_30 : decode cX6_lean 30 = .ok (.iconst (-1), 1) := by decide +kernel
theorem dX6_lean_31 : decode cX6_lean 31 = .ok (.if_icmp .eq 23, 3) := by decide +kernel
theorem dX6_lean_34 : decode cX6_lean 34 = .ok (.aload_n 0, 1) := by decide +kernel
theorem dX6_lean_35 : decode cX6_lean 35 = .ok (.iload_n 2, 1) := by decide +kernel
theorem dX6_lean_36 : decode cX6_lean 36 = .ok (.invokevirtual 408, 3) := by decide +kernel
theorem dX6_lean_39 : decode cX6_lean 39 = .ok (.aload_n 0, 1) := by decide +kernel
theorem dX6_lean_40 : decode cX6_lean 40 = .ok (.invokevirtual 276, 3) := by decide +kernel
theorem dX6_lean_43 : decode cX6_lean 43 = .ok (.iinc 1 1, 3) := by decide +kernel
theorem dX6_lean_46 : decode cX6_lean 46 = .ok (.aload_n 0, 1) := by decide +kernel
theorem dX6_lean_47 : decode cX6_lean 47 = .ok (.invokevirtual 424, 3) := by decide +kernel
theorem dX6_lean_50 : decode cX6_lean 50 = .ok (.istore_n 2, 1) := by decide +kernel
theorem dX6_lean_51 : decode cX6_lean 51 = .ok (.goto (-22), 3) := by decide +kernel
theorem dX6_lean_54 : decode cX6_lean 54 = .ok (.aload_n 0, 1) := by decide +kernel
theorem dX6_lean_55 : decode cX6_lean 55 = .ok (.iload_n 1, 1) := by decide +kernel
theorem dX6_lean_56 : decode cX6_lean 56 = .ok (.invokevirtual 270, 3) := by decide +kernel
theorem dX6_lean_59 : decode cX6_lean 59 = .ok (.ireturn, 1) := by decide +kernel
theorem dX6_letter_0 : decode cX6_letter 0 = .ok (.aload_n 0, 1) := by decide +kernel
theorem dX6_letter_1 : decode cX6_letter 1 = .ok (.iconst 0, 1) := by decide +kernel
theorem dX6_letter_2 : decode cX6_letter 2 = .ok (.putfield 77, 3) := by decide +kernel
theorem dX6_letter_5 : decode cX6_letter 5 = .ok (.iconst 0, 1) := by decide +kernel
theorem dX6_letter_6 : decode cX6_letter 6 = .ok (.istore_n 3, 1) := by decide +kernel
theorem dX6_letter_7 : decode cX6_letter 7 = .ok (.aload_n 0, 1) := by decide +kernel
theorem dX6_letter_8 : decode cX6_letter 8 = .ok (.iload_n 1, 1) := by decide +kernel
theorem dX6_letter_9 : decode cX6_letter 9 = .ok (.invokevirtual 328, 3) := by decide +kernel
theorem dX6_letter_12 : decode cX6_letter 12 = .ok (.ifCond .eq 32, 3) := by decide +kernel
theorem dX6_letter_15 : decode cX6_letter 15 = .ok (.aload_n 0, 1) := by decide +kernel
theorem dX6_letter_16 : decode cX6_letter 16 = .ok (.getfield 26, 3) := by decide +kernel
theorem dX6_letter_19 : decode cX6_letter 19 = .ok (.iload_n 1, 1) := by decide +kernel
theorem dX6_letter_20 : decode cX6_letter 20 = .ok (.laload, 1) := by decide +kernel
theorem dX6_letter_21 : decode cX6_letter 21 = .ok (.lstore 4, 2) := by decide +kernel
theorem dX6_letter_23 : decode cX6_letter 23 = .ok (.lload 4, 2) := by decide +kernel
theorem dX6_letter_25 : decode cX6_letter 25 = .ok (.lconst 0, 1) := by decide +kernel
theorem dX6_letter_26 : decode cX6_letter 26 = .ok (.lcmp, 1) := by decide +kernel
theorem dX6_letter_27 : decode cX6_letter 27 = .ok (.ifCond .le 17, 3) := by decide +kernel
theorem dX6_letter_30 : decode cX6_letter 30 = .ok (.iinc 3 1, 3) := by decide +kernel
theorem dX6_letter_33 : decode cX6_letter 33 = .ok (.lload 4, 2) := by decide +kernel
theorem dX6_letter_35 : decode cX6_letter 35 = .ok (.ldc2_w 130, 3) := by decide +kernel
theorem dX6_letter_38 : decode cX6_letter 38 = .ok (.ldiv, 1) := by decide +kernel
theorem dX6_letter_39 : decode cX6_letter 39 = .ok (.lstore 4, 2) := by decide +kernel
theorem dX6_letter_41 : decode cX6_letter 41 = .ok (.goto (-18), 3) := by decide +kernel
theorem dX6_letter_44 : decode cX6_letter 44 = .ok (.iload_n 2, 1) := by decide +kernel
theorem dX6_letter_45 : decode cX6_letter 45 = .ok (.i2l, 1) := by decide +kernel
theorem dX6_letter_46 : decode cX6_letter 46 = .ok (.lconst 0, 1) := by decide +kernel
theorem dX6_letter_47 : decode cX6_letter 47 = .ok (.iload_n 3, 1) := by decide +kernel
theorem dX6_letter_48 : decode cX6_letter 48 = .ok (.iconst 1, 1) := by decide +kernel
theorem dX6_letter_49 : decode cX6_letter 49 = .ok (.isub, 1) := by decide +kernel
theorem dX6_letter_50 : decode cX6_letter 50 = .ok (.i2l, 1) := by decide +kernel
theorem dX6_letter_51 : decode cX6_letter 51 = .ok (.invokestatic 108, 3) := by decide +kernel
theorem dX6_letter_54 : decode cX6_letter 54 = .ok (.ifCond .ne 10, 3) := by decide +kernel
theorem dX6_letter_57 : decode cX6_letter 57 = .ok (.aload_n 0, 1) := by decide +kernel
theorem dX6_letter_58 : decode cX6_letter 58 = .ok (.iconst 1, 1) := by decide +kernel
theorem dX6_letter_59 : decode cX6_letter 59 = .ok (.putfield 77, 3) := by decide +kernel
theorem dX6_letter_62 : decode cX6_letter 62 = .ok (.iconst 0, 1) := by decide +kernel
theorem dX6_letter_63 : decode cX6_letter 63 = .ok (.ireturn, 1) := by decide +kernel
theorem dX6_letter_64 : decode cX6_letter 64 = .ok (.aload_n 0, 1) := by decide +kernel
theorem dX6_letter_65 : decode cX6_letter 65 = .ok (.getfield 26, 3) := by decide +kernel
theorem dX6_letter_68 : decode cX6_letter 68 = .ok (.iload_n 1, 1) := by decide +kernel
theorem dX6_letter_69 : decode cX6_letter 69 = .ok (.laload, 1) := by decide +kernel
theorem dX6_letter_70 : decode cX6_letter 70 = .ok (.lstore 4, 2) := by decide +kernel
theorem dX6_letter_72 : decode cX6_letter 72 = .ok (.iload_n 3, 1) := by decide +kernel
theorem dX6_letter_73 : decode cX6_letter 73 = .ok (.iconst 1, 1) := by decide +kernel
theorem dX6_letter_74 : decode cX6_letter 74 = .ok (.isub, 1) := by decide +kernel
theorem dX6_letter_75 : decode cX6_letter 75 = .ok (.istore 6, 2) := by decide +kernel
theorem dX6_letter_77 : decode cX6_letter 77 = .ok (.iload 6, 2) := by decide +kernel
theorem dX6_letter_79 : decode cX6_letter 79 = .ok (.iload_n 2, 1) := by decide +kernel
theorem dX6_letter_80 : decode cX6_letter 80 = .ok (.if_icmp .le 17, 3) := by decide +kernel
theorem dX6_letter_83 : decode cX6_letter 83 = .ok (.lload 4, 2) := by decide +kernel
theorem dX6_letter_85 : decode cX6_letter 85 = .ok (.ldc2_w 130, 3) := by decide +kernel
theorem dX6_letter_88 : decode cX6_letter 88 = .ok (.ldiv, 1) := by decide +kernel
theorem dX6_letter_89 : decode cX6_letter 89 = .ok (.lstore 4, 2) := by decide +kernel
theorem dX6_letter_91 : decode cX6_letter 91 = .ok (.iinc 6 (-1), 3) := by decide +kernel
theorem dX6_letter_94 : decode cX6_letter 94 = .ok (.goto (-17), 3) := by decide +kernel
theorem dX6_letter_97 : decode cX6_letter 97 = .ok (.lload 4, 2) := by decide +kernel
theorem dX6_letter_99 : decode cX6_letter 99 = .ok (.ldc2_w 130, 3) := by decide +kernel
theorem dX6_letter_102 : decode cX6_letter 102 = .ok (.lrem, 1) := by decide +kernel
theorem dX6_letter_103 : decode cX6_letter 103 = .ok (.l2i, 1) := by decide +kernel
theorem dX6_letter_104 : decode cX6_letter 104 = .ok (.iconst 1, 1) := by decide +kernel
theorem dX6_letter_105 : decode cX6_letter 105 = .ok (.isub, 1) := by decide +kernel
theorem dX6_letter_106 : decode cX6_letter 106 = .ok (.ireturn, 1) := by decide +kernel
theorem dX6_size_0 : decode cX6_size 0 = .ok (.aload_n 0, 1) := by decide +kernel
theorem dX6_size_1 : decode cX6_size 1 = .ok (.iconst 0, 1) := by decide +kernel
theorem dX6_size_2 : decode cX6_size 2 = .ok (.putfield 77, 3) := by decide +kernel
theorem dX6_size_5 : decode cX6_size 5 = .ok (.aload_n 0, 1) := by decide +kernel
theorem dX6_size_6 : decode cX6_size 6 = .ok (.getfield 89, 3) := by decide +kernel
theorem dX6_size_9 : decode cX6_size 9 = .ok (.ireturn, 1) := by decide +kernel
theorem dX6_trouble_0 : decode cX6_trouble 0 = .ok (.aload_n 0, 1) := by decide +kernel
theorem dX6_trouble_1 : decode cX6_trouble 1 = .ok (.iconst 0, 1) := by decide +kernel
theorem dX6_trouble_2 : decode cX6_trouble 2 = .ok (.putfield 77, 3) := by decide +kernel
theorem dX6_trouble_5 : decode cX6_trouble 5 = .ok (.aload_n 0, 1) := by decide +kernel
theorem dX6_trouble_6 : decode cX6_trouble 6 = .ok (.getfield 80, 3) := by decide +kernel
theorem dX6_trouble_9 : decode cX6_trouble 9 = .ok (.ireturn, 1) := by decide +kernel
