theorem dX4_init_0 : decode cX4_init 0 = .ok (.aload_n 0, 1) := by decide +kernel
theorem dX4_init_1 : decode cX4_init 1 = .ok (.invokespecial 3, 3) := by decide +kernel
theorem dX4_init_4 : decode cX4_init 4 = .ok (.aload_n 0, 1) := by decide +kernel
theorem dX4_init_5 : decode cX4_init 5 = .ok (.sipush 150, 3) := by decide +kernel
theorem dX4_init_8 : decode cX4_init 8 = .ok (.newarray .int, 2) := by decide +kernel
theorem dX4_init_10 : decode cX4_init 10 = .ok (.putfield 9, 3) := by decide +kernel
theorem dX4_init_13 : decode cX4_init 13 = .ok (.aload_n 0, 1) := by decide +kernel
theorem dX4_init_14 : decode cX4_init 14 = .ok (.sipush 450, 3) := by decide +kernel
theorem dX4_init_17 : decode cX4_init 17 = .ok (.newarray .int, 2) := by decide +kernel
theorem dX4_init_19 : decode cX4_init 19 = .ok (.putfield 15, 3) := by decide +kernel
theorem dX4_init_22 : decode cX4_init 22 = .ok (.aload_n 0, 1) := by decide +kernel
theorem dX4_init_23 : decode cX4_init 23 = .ok (.sipush 150, 3) := by decide +kernel
theorem dX4_init_26 : decode cX4_init 26 = .ok (.newarray .int, 2) := by decide +kernel
theorem dX4_init_28 : decode cX4_init 28 = .ok (.putfield 18, 3) := by decide +kernel
theorem dX4_init_31 : decode cX4_init 31 = .ok (.aload_n 0, 1) := by decide +kernel
theorem dX4_init_32 : decode cX4_init 32 = .ok (.sipush 150, 3) := by decide +kernel
theorem dX4_init_35 : decode cX4_init 35 = .ok (.newarray .long, 2) := by decide +kernel
theorem dX4_init_37 : decode cX4_init 37 = .ok (.putfield 21, 3) := by decide +kernel
theorem dX4_init_40 : decode cX4_init 40 = .ok (.return_, 1) := by decide +kernel
theorem dX4_actLabelled_0 : decode cX4_actLabelled 0 = .ok (.iconst 0, 1) := by decide +kernel
theorem dX4_actLabelled_1 : decode cX4_actLabelled 1 = .ok (.istore_n 3, 1) := by decide +kernel
theorem dX4_actLabelled_2 : decode cX4_actLabelled 2 = .ok (.iload_n 3, 1) := by decide +kernel
theorem dX4_actLabelled_3 : decode cX4_actLabelled 3 = .ok (.aload_n 0, 1) := by decide +kernel
theorem dX4_actLabelled_4 : decode cX4_actLabelled 4 = .ok (.getfield 25, 3) := by decide +kernel
theorem dX4_actLabelled_7 : decode cX4_actLabelled 7 = .ok (.if_icmp .ge 22, 3) := by decide +kernel
theorem dX4_actLabelled_10 : decode cX4_actLabelled 10 = .ok (.aload_n 0, 1) := by decide +kernel
theorem dX4_actLabelled_11 : decode cX4_actLabelled 11 = .ok (.getfield 21, 3) := by decide +kernel
theorem dX4_actLabelled_14 : decode cX4_actLabelled 14 = .ok (.iload_n 3, 1) := by decide +kernel
theorem dX4_actLabelled_15 : decode cX4_actLabelled 15 = .ok (.laload, 1) := by decide +kernel
theorem dX4_actLabelled_16 : decode cX4_actLabelled 16 = .ok (.lload_n 1, 1) := by decide +kernel
theorem dX4_actLabelled_17 : decode cX4_actLabelled 17 = .ok (.lcmp, 1) := by decide +kernel
theorem dX4_actLabelled_18 : decode cX4_actLabelled 18 = .ok (.ifCond .ne 5, 3) := by decide +kernel
theorem dX4_actLabelled_21 : decode cX4_actLabelled 21 = .ok (.iload_n 3, 1) := by decide +kernel
theorem dX4_actLabelled_22 : decode cX4_actLabelled 22 = .ok (.ireturn, 1) := by decide +kernel
theorem dX4_actLabelled_23 : decode cX4_actLabelled 23 = .ok (.iinc 3 1, 3) := by decide +kernel
theorem dX4_actLabelled_26 : decode cX4_actLabelled 26 = .ok (.goto (-24), 3) := by decide +kernel
theorem dX4_actLabelled_29 : decode cX4_actLabelled 29 = .ok (.iconst (-1), 1) := by decide +kernel
theorem dX4_actLabelled_30 : decode cX4_actLabelled 30 = .ok (.ireturn, 1) := by decide +kernel
theorem dX5_init_0 : decode cX5_init 0 = .ok (.aload_n 0, 1) := by decide +kernel
theorem dX5_init_1 : decode cX5_init 1 = .ok (.invokespecial 3, 3) := by decide +kernel
theorem dX5_init_4 : decode cX5_init 4 = .ok (.aload_n 0, 1) := by decide +kernel
theorem dX5_init_5 : decode cX5_init 5 = .ok (.new 9, 3) := by decide +kernel
theorem dX5_init_8 : decode cX5_init 8 = .ok (.dup, 1) := by decide +kernel
theorem dX5_init_9 : decode cX5_init 9 = .ok (.invokespecial 11, 3) := by decide +kernel
theorem dX5_init_12 : decode cX5_init 12 = .ok (.putfield 12, 3) := by decide +kernel
theorem dX5_init_15 : decode cX5_init 15 = .ok (.return_, 1) := by decide +kernel
theorem dX5_readText_0 : decode cX5_readText 0 = .ok (.aload_n 0, 1) := by decide +kernel
theorem dX5_readText_1 : decode cX5_readText 1 = .ok (.iconst 0, 1) := by decide +kernel
theorem dX5_readText_2 : decode cX5_readText 2 = .ok (.putfield 18, 3) := by decide +kernel
theorem dX5_readText_5 : decode cX5_readText 5 = .ok (.aload_n 3, 1) := by decide +kernel
theorem dX5_readText_6 : decode cX5_readText 6 = .ok (.iconst 0, 1) := by decide +kernel
theorem dX5_readText_7 : decode cX5_readText 7 = .ok (.putfield 22, 3) := by decide +kernel
theorem dX5_readText_10 : decode cX5_readText 10 = .ok (.aload_n 0, 1) := by decide +kernel
theorem dX5_readText_11 : decode cX5_readText 11 = .ok (.getfield 12, 3) := by decide +kernel
theorem dX5_readText_14 : decode cX5_readText 14 = .ok (.aload_n 1, 1) := by decide +kernel
theorem dX5_readText_15 : decode cX5_readText 15 = .ok (.iload_n 2, 1) := by decide +kernel
theorem dX5_readText_16 : decode cX5_readText 16 = .ok (.invokevirtual 27, 3) := by decide +kernel
theorem dX5_readText_19 : decode cX5_readText 19 = .ok (.istore 4, 2) := by decide +kernel
theorem dX5_readText_21 : decode cX5_readText 21 = .ok (.iload 4, 2) := by decide +kernel
theorem dX5_readText_23 : decode cX5_readText 23 = .ok (.iconst (-1), 1) := by decide +kernel
theorem dX5_readText_24 : decode cX5_readText 24 = .ok (.if_icmp .eq 11, 3) := by decide +kernel
theorem dX5_readText_27 : decode cX5_readText 27 = .ok (.aload_n 0, 1) := by decide +kernel
theorem dX5_readText_28 : decode cX5_readText 28 = .ok (.iload 4, 2) := by decide +kernel
theorem dX5_readText_30 : decode cX5_readText 30 = .ok (.putfield 31, 3) := by decide +kernel
theorem dX5_readText_33 : decode cX5_readText 33 = .ok (.iconst 1, 1) := by decide +kernel
theorem dX5_readText_34 : decode cX5_readText 34 = .ok (.ireturn, 1) := by decide +kernel
theorem dX5_readText_35 : decode cX5_readText 35 = .ok (.iconst 0, 1) := by decide +kernel
theorem dX5_readText_36 : decode cX5_readText 36 = .ok (.istore 5, 2) := by decide +kernel
theorem dX5_readText_38 : decode cX5_readText 38 = .ok (.iload 5, 2) := by decide +kernel
theorem dX5_readText_40 : decode cX5_readText 40 = .ok (.aload_n 0, 1) := by decide +kernel
theorem dX5_readText_41 : decode cX5_readText 41 = .ok (.getfield 12, 3) := by decide +kernel
theorem dX5_readText_44 : decode cX5_readText 44 = .ok (.getfield 34, 3) := by decide +kernel
theorem dX5_readText_47 : decode cX5_readText 47 = .ok (.if_icmp .ge 29, 3) := by decide +kernel
theorem dX5_readText_50 : decode cX5_readText 50 = .ok (.aload_n 0, 1) := by decide +kernel
theorem dX5_readText_51 : decode cX5_readText 51 = .ok (.getfield 18, 3) := by decide +kernel
theorem dX5_readText_54 : decode cX5_readText 54 = .ok (.ifCond .ne 22, 3) := by decide +kernel
theorem dX5_readText_57 : decode cX5_readText 57 = .ok (.iload 5, 2) := by decide +kernel
theorem dX5_readText_59 : decode cX5_readText 59 = .ok (.iconst 1, 1) := by decide +kernel
theorem dX5_readText_60 : decode cX5_readText 60 = .ok (.iadd, 1) := by decide +kernel
theorem dX5_readText_61 : decode cX5_readText 61 = .ok (.aload_n 0, 1) := by decide +kernel
theorem dX5_readText_62 : decode cX5_readText 62 = .ok (.iload 5, 2) := by decide +kernel
theorem dX5_readText_64 : decode cX5_readText 64 = .ok (.aload_n 3, 1) := by decide +kernel
theorem dX5_readText_65 : decode cX5_readText 65 = .ok (.invokevirtual 35, 3) := by decide +kernel
theorem dX5_readText_68 : decode cX5_readText 68 = .ok (.invokestatic 39, 3) := by decide +kernel
theorem dX5_readText_71 : decode cX5_readText 71 = .ok (.istore 5, 2) := by decide +kernel
theorem dX5_readText_73 : decode cX5_readText 73 = .ok (.goto (-35), 3) := by decide +kernel
theorem dX5_readText_76 : decode cX5_readText 76 = .ok (.aload_n 0, 1) := by decide +kernel
theorem dX5_readText_77 : decode cX5_readText 77 = .ok (.getfield 18, 3) := by decide +kernel
theorem dX5_readText_80 : decode cX5_readText 80 = .ok (.ifCond .ne 8, 3) := by decide +kernel
theorem dX5_readText_83 : decode cX5_readText 83 = .ok (.aload_n 0, 1) := by decide +kernel
theorem dX5_readText_84 : decode cX5_readText 84 = .ok (.aload_n 3, 1) := by decide +kernel
theorem dX5_readText_85 : decode cX5_readText 85 = .ok (.invokevirtual 45, 3) := by decide +kernel
theorem dX5_readText_88 : decode cX5_readText 88 = .ok (.aload_n 0, 1) := by decide +kernel
theorem dX5_readText_89 : decode cX5_readText 89 = .ok (.getfield 18, 3) := by decide +kernel
theorem dX5_readText_92 : decode cX5_readText 92 = .ok (.ireturn, 1) := by decide +kernel
theorem dX5_readAct_0 : decode cX5_readAct 0 = .ok (.aload_n 0, 1) := by decide +kernel
theorem dX5_readAct_1 : decode cX5_readAct 1 = .ok (.iload_n 1, 1) := by decide +kernel
theorem dX5_readAct_2 : decode cX5_readAct 2 = .ok (.aload_n 2, 1) := by decide +kernel
theorem dX5_readAct_3 : decode cX5_readAct 3 = .ok (.invokevirtual 49, 3) := by decide +kernel
theorem dX5_readAct_6 : decode cX5_readAct 6 = .ok (.ifCond .ne 7, 3) := by decide +kernel
theorem dX5_readAct_9 : decode cX5_readAct 9 = .ok (.iload_n 1, 1) := by decide +kernel
theorem dX5_readAct_10 : decode cX5_readAct 10 = .ok (.iconst 1, 1) := by decide +kernel
theorem dX5_readAct_11 : decode cX5_readAct 11 = .ok (.iadd, 1) := by decide +kernel
theorem dX5_readAct_12 : decode cX5_readAct 12 = .ok (.ireturn, 1) := by decide +kernel
theorem dX5_readAct_13 : decode cX5_readAct 13 = .ok (.aload_n 0, 1) := by decide +kernel
theorem dX5_readAct_14 : decode cX5_readAct 14 = .ok (.getfield 12, 3) := by decide +kernel
theorem dX5_readAct_17 : decode cX5_readAct 17 = .ok (.iload_n 1, 1) := by decide +kernel
theorem dX5_readAct_18 : decode cX5_readAct 18 = .ok (.invokevirtual 53, 3) := by decide +kernel
theorem dX5_readAct_21 : decode cX5_readAct 21 = .ok (.iconst 3, 1) := by decide +kernel
theorem dX5_readAct_22 : decode cX5_readAct 22 = .ok (.if_icmp .ne 7, 3) := by decide +kernel
theorem dX5_readAct_25 : decode cX5_readAct 25 = .ok (.iconst 1, 1) := by decide +kernel
theorem dX5_readAct_26 : decode cX5_readAct 26 = .ok (.goto 4, 3) := by decide +kernel
theorem dX5_readAct_29 : decode cX5_readAct 29 = .ok (.iconst 0, 1) := by decide +kernel
theorem dX5_readAct_30 : decode cX5_readAct 30 = .ok (.istore_n 3, 1) := by decide +kernel
theorem dX5_readAct_31 : decode cX5_readAct 31 = .ok (.iload_n 3, 1) := by decide +kernel
theorem dX5_readAct_32 : decode cX5_readAct 32 = .ok (.ifCond .eq 9, 3) := by decide +kernel
theorem dX5_readAct_35 : decode cX5_readAct 35 = .ok (.iload_n 1, 1) := by decide +kernel
theorem dX5_readAct_36 : decode cX5_readAct 36 = .ok (.iconst 2, 1) := by decide +kernel
theorem dX5_readAct_37 : decode cX5_readAct 37 = .ok (.iadd, 1) := by decide +kernel
theorem dX5_readAct_38 : decode cX5_readAct 38 = .ok (.goto 4, 3) := by decide +kernel
theorem dX5_readAct_41 : decode cX5_readAct 41 = .ok (.iload_n 1, 1) := by decide +kernel
theorem dX5_readAct_42 : decode cX5_readAct 42 = .ok (.istore 4, 2) := by decide +kernel
theorem dX5_readAct_44 : decode cX5_readAct 44 = .ok (.iload_n 3, 1) := by decide +kernel
theorem dX5_readAct_45 : decode cX5_readAct 45 = .ok (.ifCond .eq 14, 3) := by decide +kernel
theorem dX5_readAct_48 : decode cX5_readAct 48 = .ok (.aload_n 0, 1) := by decide +kernel
theorem dX5_readAct_49 : decode cX5_readAct 49 = .ok (.iload_n 1, 1) := by decide +kernel
theorem dX5_readAct_50 : decode cX5_readAct 50 = .ok (.iconst 1, 1) := by decide +kernel
theorem dX5_readAct_51 : decode cX5_readAct 51 = .ok (.iadd, 1) := by decide +kernel
theorem dX5_readAct_52 : decode cX5_readAct 52 = .ok (.iconst 4, 1) := by decide +kernel
theorem dX5_readAct_53 : decode cX5_readAct 53 = .ok (.invokevirtual 57, 3) := by decide +kernel
theorem dX5_readAct_56 : decode cX5_readAct 56 = .ok (.ifCond .eq 13, 3) := by decide +kernel
theorem dX5_readAct_59 : decode cX5_readAct 59 = .ok (.aload_n 0, 1) := by decide +kernel
theorem dX5_readAct_60 : decode cX5_readAct 60 = .ok (.iload 4, 2) := by decide +kernel
theorem dX5_readAct_62 : decode cX5_readAct 62 = .ok (.iconst 2, 1) := by decide +kernel
theorem dX5_readAct_63 : decode cX5_readAct 63 = .ok (.invokevirtual 57, 3) := by decide +kernel
theorem dX5_readAct_66 : decode cX5_readAct 66 = .ok (.ifCond .ne 7, 3) := by decide +kernel
theorem dX5_readAct_69 : decode cX5_readAct 69 = .ok (.iload_n 1, 1) := by decide +kernel
theorem dX5_readAct_70 : decode cX5_readAct 70 = .ok (.iconst 1, 1) := by decide +kernel
theorem dX5_readAct_71 : decode cX5_readAct 71 = .ok (.iadd, 1) := by decide +kernel
theorem dX5_readAct_72 : decode cX5_readAct 72 = .ok (.ireturn, 1) := by decide +kernel
theorem dX5_readAct_73 : decode cX5_readAct 73 = .ok (.aload_n 2, 1) := by decide +kernel
theorem dX5_readAct_74 : decode cX5_readAct 74 = .ok (.getfield 22, 3) := by decide +kernel
theorem dX5_readAct_77 : decode cX5_readAct 77 = .ok (.istore 5, 2) := by decide +kernel
theorem dX5_readAct_79 : decode cX5_readAct 79 = .ok (.aload_n 0, 1) := by decide +kernel
theorem dX5_readAct_80 : decode cX5_readAct 80 = .ok (.getfield 12, 3) := by decide +kernel
theorem dX5_readAct_83 : decode cX5_readAct 83 = .ok (.iload 4, 2) := by decide +kernel
theorem dX5_readAct_85 : decode cX5_readAct 85 = .ok (.invokevirtual 61, 3) := by decide +kernel
theorem dX5_readAct_88 : decode cX5_readAct 88 = .ok (.istore 6, 2) := by decide +kernel
theorem dX5_readAct_90 : decode cX5_readAct 90 = .ok (.aload_n 2, 1) := by decide +kernel
theorem dX5_readAct_91 : decode cX5_readAct 91 = .ok (.getfield 64, 3) := by decide +kernel
theorem dX5_readAct_94 : decode cX5_readAct 94 = .ok (.iload 5, 2) := by decide +kernel
theorem dX5_readAct_96 : decode cX5_readAct 96 = .ok (.iload_n 3, 1) := by decide +kernel
theorem dX5_readAct_97 : decode cX5_readAct 97 = .ok (.ifCond .eq 14, 3) := by decide +kernel
theorem dX5_readAct_100 : decode cX5_readAct 100 = .ok (.aload_n 0, 1) := by decide +kernel
theorem dX5_readAct_101 : decode cX5_readAct 101 = .ok (.getfield 12, 3) := by decide +kernel
theorem dX5_readAct_104 : decode cX5_readAct 104 = .ok (.iload_n 1, 1) := by decide +kernel
theorem dX5_readAct_105 : decode cX5_readAct 105 = .ok (.invokevirtual 68, 3) := by decide +kernel
theorem dX5_readAct_108 : decode cX5_readAct 108 = .ok (.goto 4, 3) := by decide +kernel
theorem dX5_readAct_111 : decode cX5_readAct 111 = .ok (.lconst 0, 1) := by decide +kernel
theorem dX5_readAct_112 : decode cX5_readAct 112 = .ok (.lastore, 1) := by decide +kernel
theorem dX5_readAct_113 : decode cX5_readAct 113 = .ok (.aload_n 2, 1) := by decide +kernel
theorem dX5_readAct_114 : decode cX5_readAct 114 = .ok (.getfield 72, 3) := by decide +kernel
theorem dX5_readAct_117 : decode cX5_readAct 117 = .ok (.iload 5, 2) := by decide +kernel
theorem dX5_readAct_119 : decode cX5_readAct 119 = .ok (.iload 6, 2) := by decide +kernel
theorem dX5_readAct_121 : decode cX5_readAct 121 = .ok (.iastore, 1) := by decide +kernel
theorem dX5_readAct_122 : decode cX5_readAct 122 = .ok (.aload_n 2, 1) := by decide +kernel
theorem dX5_readAct_123 : decode cX5_readAct 123 = .ok (.getfield 76, 3) := by decide +kernel
theorem dX5_readAct_126 : decode cX5_readAct 126 = .ok (.iload 5, 2) := by decide +kernel
theorem dX5_readAct_128 : decode cX5_readAct 128 = .ok (.aload_n 0, 1) := by decide +kernel
theorem dX5_readAct_129 : decode cX5_readAct 129 = .ok (.getfield 12, 3) := by decide +kernel
theorem dX5_readAct_132 : decode cX5_readAct 132 = .ok (.iload 4, 2) := by decide +kernel
theorem dX5_readAct_134 : decode cX5_readAct 134 = .ok (.invokevirtual 79, 3) := by decide +kernel
theorem dX5_readAct_137 : decode cX5_readAct 137 = .ok (.iastore, 1) := by decide +kernel
theorem dX5_readAct_138 : decode cX5_readAct 138 = .ok (.aload_n 2, 1) := by decide +kernel
theorem dX5_readAct_139 : decode cX5_readAct 139 = .ok (.dup, 1) := by decide +kernel
theorem dX5_readAct_140 : decode cX5_readAct 140 = .ok (.getfield 22, 3) := by decide +kernel
theorem dX5_readAct_143 : decode cX5_readAct 143 = .ok (.iconst 1, 1) := by decide +kernel
theorem dX5_readAct_144 : decode cX5_readAct 144 = .ok (.iadd, 1) := by decide +kernel
theorem dX5_readAct_145 : decode cX5_readAct 145 = .ok (.putfield 22, 3) := by decide +kernel
theorem dX5_readAct_148 : decode cX5_readAct 148 = .ok (.aload_n 0, 1) := by decide +kernel
theorem dX5_readAct_149 : decode cX5_readAct 149 = .ok (.iload 4, 2) := by decide +kernel
theorem dX5_readAct_151 : decode cX5_readAct 151 = .ok (.iconst 1, 1) := by decide +kernel
theorem dX5_readAct_152 : decode cX5_readAct 152 = .ok (.iadd, 1) := by decide +kernel
theorem dX5_readAct_153 : decode cX5_readAct 153 = .ok (.getstatic 82, 3) := by decide +kernel
theorem dX5_readAct_156 : decode cX5_readAct 156 = .ok (.iload 6, 2) := by decide +kernel
theorem dX5_readAct_158 : decode cX5_readAct 158 = .ok (.aaload, 1) := by decide +kernel
theorem dX5_readAct_159 : decode cX5_readAct 159 = .ok (.getfield 86, 3) := by decide +kernel
theorem dX5_readAct_162 : decode cX5_readAct 162 = .ok (.iload 5, 2) := by decide +kernel
theorem dX5_readAct_164 : decode cX5_readAct 164 = .ok (.aload_n 2, 1) := by decide +kernel
theorem dX5_readAct_165 : decode cX5_readAct 165 = .ok (.invokevirtual 92, 3) := by decide +kernel
theorem dX5_readAct_168 : decode cX5_readAct 168 = .ok (.ireturn, 1) := by decide +kernel
theorem dX5_mayBegin_0 : decode cX5_mayBegin 0 = .ok (.aload_n 0, 1) := by decide +kernel
theorem dX5_mayBegin_1 : decode cX5_mayBegin 1 = .ok (.getfield 12, 3) := by decide +kernel
theorem dX5_mayBegin_4 : decode cX5_mayBegin 4 = .ok (.iload_n 1, 1) := by decide +kernel
theorem dX5_mayBegin_5 : decode cX5_mayBegin 5 = .ok (.invokevirtual 53, 3) := by decide +kernel
theorem dX5_mayBegin_8 : decode cX5_mayBegin 8 = .ok (.istore_n 3, 1) := by decide +kernel
theorem dX5_mayBegin_9 : decode cX5_mayBegin 9 = .ok (.iload_n 3, 1) := by decide +kernel
theorem dX5_mayBegin_10 : decode cX5_mayBegin 10 = .ok (.iconst 3, 1) := by decide +kernel
theorem dX5_mayBegin_11 : decode cX5_mayBegin 11 = .ok (.if_icmp .eq 15, 3) := by decide +kernel
theorem dX5_mayBegin_14 : decode cX5_mayBegin 14 = .ok (.iload_n 3, 1) := by decide +kernel
theorem dX5_mayBegin_15 : decode cX5_mayBegin 15 = .ok (.iconst 2, 1) := by decide +kernel
theorem dX5_mayBegin_16 : decode cX5_mayBegin 16 = .ok (.if_icmp .eq 10, 3) := by decide +kernel
theorem dX5_mayBegin_19 : decode cX5_mayBegin 19 = .ok (.aload_n 0, 1) := by decide +kernel
theorem dX5_mayBegin_20 : decode cX5_mayBegin 20 = .ok (.iconst 2, 1) := by decide +kernel
theorem dX5_mayBegin_21 : decode cX5_mayBegin 21 = .ok (.iload_n 1, 1) := by decide +kernel
theorem dX5_mayBegin_22 : decode cX5_mayBegin 22 = .ok (.invokevirtual 96, 3) := by decide +kernel
theorem dX5_mayBegin_25 : decode cX5_mayBegin 25 = .ok (.ireturn, 1) := by decide +kernel
theorem dX5_mayBegin_26 : decode cX5_mayBegin 26 = .ok (.iload_n 3, 1) := by decide +kernel
theorem dX5_mayBegin_27 : decode cX5_mayBegin 27 = .ok (.iconst 3, 1) := by decide +kernel
theorem dX5_mayBegin_28 : decode cX5_mayBegin 28 = .ok (.if_icmp .ne 21, 3) := by decide +kernel
theorem dX5_mayBegin_31 : decode cX5_mayBegin 31 = .ok (.aload_n 0, 1) := by decide +kernel
theorem dX5_mayBegin_32 : decode cX5_mayBegin 32 = .ok (.getfield 12, 3) := by decide +kernel
theorem dX5_mayBegin_35 : decode cX5_mayBegin 35 = .ok (.iload_n 1, 1) := by decide +kernel
theorem dX5_mayBegin_36 : decode cX5_mayBegin 36 = .ok (.iconst 1, 1) := by decide +kernel
theorem dX5_mayBegin_37 : decode cX5_mayBegin 37 = .ok (.iadd, 1) := by decide +kernel
theorem dX5_mayBegin_38 : decode cX5_mayBegin 38 = .ok (.invokevirtual 53, 3) := by decide +kernel
theorem dX5_mayBegin_41 : decode cX5_mayBegin 41 = .ok (.iconst 4, 1) := by decide +kernel
theorem dX5_mayBegin_42 : decode cX5_mayBegin 42 = .ok (.if_icmp .ne 7, 3) := by decide +kernel
theorem dX5_mayBegin_45 : decode cX5_mayBegin 45 = .ok (.iconst 1, 1) := by decide +kernel
theorem dX5_mayBegin_46 : decode cX5_mayBegin 46 = .ok (.goto 4, 3) := by decide +kernel
theorem dX5_mayBegin_49 : decode cX5_mayBegin 49 = .ok (.iconst 0, 1) := by decide +kernel
theorem dX5_mayBegin_50 : decode cX5_mayBegin 50 = .ok (.istore 4, 2) := by decide +kernel
theorem dX5_mayBegin_52 : decode cX5_mayBegin 52 = .ok (.iload 4, 2) := by decide +kernel
theorem dX5_mayBegin_54 : decode cX5_mayBegin 54 = .ok (.ifCond .eq 26, 3) := by decide +kernel
theorem dX5_mayBegin_57 : decode cX5_mayBegin 57 = .ok (.aload_n 2, 1) := by decide +kernel
theorem dX5_mayBegin_58 : decode cX5_mayBegin 58 = .ok (.aload_n 0, 1) := by decide +kernel
theorem dX5_mayBegin_59 : decode cX5_mayBegin 59 = .ok (.getfield 12, 3) := by decide +kernel
theorem dX5_mayBegin_62 : decode cX5_mayBegin 62 = .ok (.iload_n 1, 1) := by decide +kernel
theorem dX5_mayBegin_63 : decode cX5_mayBegin 63 = .ok (.invokevirtual 68, 3) := by decide +kernel
theorem dX5_mayBegin_66 : decode cX5_mayBegin 66 = .ok (.invokevirtual 99, 3) := by decide +kernel
theorem dX5_mayBegin_69 : decode cX5_mayBegin 69 = .ok (.iconst (-1), 1) := by decide +kernel
theorem dX5_mayBegin_70 : decode cX5_mayBegin 70 = .ok (.if_icmp .eq 10, 3) := by decide +kernel
theorem dX5_mayBegin_73 : decode cX5_mayBegin 73 = .ok (.aload_n 0, 1) := by decide +kernel
theorem dX5_mayBegin_74 : decode cX5_mayBegin 74 = .ok (.iconst 3, 1) := by decide +kernel
theorem dX5_mayBegin_75 : decode cX5_mayBegin 75 = .ok (.iload_n 1, 1) := by decide +kernel
theorem dX5_mayBegin_76 : decode cX5_mayBegin 76 = .ok (.invokevirtual 96, 3) := by decide +kernel
theorem dX5_mayBegin_79 : decode cX5_mayBegin 79 = .ok (.ireturn, 1) := by decide +kernel
theorem dX5_mayBegin_80 : decode cX5_mayBegin 80 = .ok (.aload_n 2, 1) := by decide +kernel
theorem dX5_mayBegin_81 : decode cX5_mayBegin 81 = .ok (.getfield 22, 3) := by decide +kernel
theorem dX5_mayBegin_84 : decode cX5_mayBegin 84 = .ok (.sipush 150, 3) := by decide +kernel
theorem dX5_mayBegin_87 : decode cX5_mayBegin 87 = .ok (.if_icmp .lt 12, 3) := by decide +kernel
theorem dX5_mayBegin_90 : decode cX5_mayBegin 90 = .ok (.aload_n 0, 1) := by decide +kernel
theorem dX5_mayBegin_91 : decode cX5_mayBegin 91 = .ok (.iconst 5, 1) := by decide +kernel
theorem dX5_mayBegin_92 : decode cX5_mayBegin 92 = .ok (.iload_n 1, 1) := by decide +kernel
theorem dX5_mayBegin_93 : decode cX5_mayBegin 93 = .ok (.invokevirtual 96, 3) := by decide +kernel
theorem dX5_mayBegin_96 : decode cX5_mayBegin 96 = .ok (.ifCond .eq 7, 3) := by decide +kernel
theorem dX5_mayBegin_99 : decode cX5_mayBegin 99 = .ok (.iconst 1, 1) := by decide +kernel
theorem dX5_mayBegin_100 : decode cX5_mayBegin 100 = .ok (.goto 4, 3) := by decide +kernel
theorem dX5_mayBegin_103 : decode cX5_mayBegin 103 = .ok (.iconst 0, 1) := by decide +kernel
theorem dX5_mayBegin_104 : decode cX5_mayBegin 104 = .ok (.ireturn, 1) := by decide +kernel
theorem dX5_readTaken_0 : decode cX5_readTaken 0 = .ok (.iload_n 1, 1) := by decide +kernel
theorem dX5_readTaken_1 : decode cX5_readTaken 1 = .ok (.istore 5, 2) := by decide +kernel
theorem dX5_readTaken_3 : decode cX5_readTaken 3 = .ok (.iconst 0, 1) := by decide +kernel
theorem dX5_readTaken_4 : decode cX5_readTaken 4 = .ok (.istore 6, 2) := by decide +kernel
theorem dX5_readTaken_6 : decode cX5_readTaken 6 = .ok (.iload 6, 2) := by decide +kernel
theorem dX5_readTaken_8 : decode cX5_readTaken 8 = .ok (.aload_n 2, 1) := by decide +kernel
theorem dX5_readTaken_9 : decode cX5_readTaken 9 = .ok (.invokevirtual 103, 3) := by decide +kernel
theorem dX5_readTaken_12 : decode cX5_readTaken 12 = .ok (.if_icmp .ge 92, 3) := by decide +kernel
theorem dX5_readTaken_15 : decode cX5_readTaken 15 = .ok (.iload 6, 2) := by decide +kernel
theorem dX5_readTaken_17 : decode cX5_readTaken 17 = .ok (.iconst 3, 1) := by decide +kernel
theorem dX5_readTaken_18 : decode cX5_readTaken 18 = .ok (.if_icmp .ge 86, 3) := by decide +kernel
theorem dX5_readTaken_21 : decode cX5_readTaken 21 = .ok (.aload_n 0, 1) := by decide +kernel
theorem dX5_readTaken_22 : decode cX5_readTaken 22 = .ok (.iload 5, 2) := by decide +kernel
theorem dX5_readTaken_24 : decode cX5_readTaken 24 = .ok (.aload_n 2, 1) := by decide +kernel
theorem dX5_readTaken_25 : decode cX5_readTaken 25 = .ok (.iload 6, 2) := by decide +kernel
theorem dX5_readTaken_27 : decode cX5_readTaken 27 = .ok (.invokevirtual 109, 3) := by decide +kernel
theorem dX5_readTaken_30 : decode cX5_readTaken 30 = .ok (.invokestatic 113, 3) := by decide +kernel
theorem dX5_readTaken_33 : decode cX5_readTaken 33 = .ok (.invokevirtual 57, 3) := by decide +kernel
theorem dX5_readTaken_36 : decode cX5_readTaken 36 = .ok (.ifCond .ne 8, 3) := by decide +kernel
theorem dX5_readTaken_39 : decode cX5_readTaken 39 = .ok (.iload 5, 2) := by decide +kernel
theorem dX5_readTaken_41 : decode cX5_readTaken 41 = .ok (.iconst 1, 1) := by decide +kernel
theorem dX5_readTaken_42 : decode cX5_readTaken 42 = .ok (.iadd, 1) := by decide +kernel
theorem dX5_readTaken_43 : decode cX5_readTaken 43 = .ok (.ireturn, 1) := by decide +kernel
theorem dX5_readTaken_44 : decode cX5_readTaken 44 = .ok (.aload_n 0, 1) := by decide +kernel
theorem dX5_readTaken_45 : decode cX5_readTaken 45 = .ok (.getfield 12, 3) := by decide +kernel
theorem dX5_readTaken_48 : decode cX5_readTaken 48 = .ok (.iload 5, 2) := by decide +kernel
theorem dX5_readTaken_50 : decode cX5_readTaken 50 = .ok (.invokevirtual 53, 3) := by decide +kernel
theorem dX5_readTaken_53 : decode cX5_readTaken 53 = .ok (.iconst 3, 1) := by decide +kernel
theorem dX5_readTaken_54 : decode cX5_readTaken 54 = .ok (.if_icmp .ne 7, 3) := by decide +kernel
theorem dX5_readTaken_57 : decode cX5_readTaken 57 = .ok (.iconst 1, 1) := by decide +kernel
theorem dX5_readTaken_58 : decode cX5_readTaken 58 = .ok (.goto 4, 3) := by decide +kernel
theorem dX5_readTaken_61 : decode cX5_readTaken 61 = .ok (.iconst 0, 1) := by decide +kernel
theorem dX5_readTaken_62 : decode cX5_readTaken 62 = .ok (.istore 7, 2) := by decide +kernel
theorem dX5_readTaken_64 : decode cX5_readTaken 64 = .ok (.aload 4, 2) := by decide +kernel
theorem dX5_readTaken_66 : decode cX5_readTaken 66 = .ok (.getfield 117, 3) := by decide +kernel
theorem dX5_readTaken_69 : decode cX5_readTaken 69 = .ok (.iload_n 3, 1) := by decide +kernel
theorem dX5_readTaken_70 : decode cX5_readTaken 70 = .ok (.iconst 3, 1) := by decide +kernel
theorem dX5_readTaken_71 : decode cX5_readTaken 71 = .ok (.imul, 1) := by decide +kernel
theorem dX5_readTaken_72 : decode cX5_readTaken 72 = .ok (.iload 6, 2) := by decide +kernel
theorem dX5_readTaken_74 : decode cX5_readTaken 74 = .ok (.iadd, 1) := by decide +kernel
theorem dX5_readTaken_75 : decode cX5_readTaken 75 = .ok (.iload 7, 2) := by decide +kernel
theorem dX5_readTaken_77 : decode cX5_readTaken 77 = .ok (.ifCond .eq 8, 3) := by decide +kernel
theorem dX5_readTaken_80 : decode cX5_readTaken 80 = .ok (.iload 5, 2) := by decide +kernel
theorem dX5_readTaken_82 : decode cX5_readTaken 82 = .ok (.goto 12, 3) := by decide +kernel
theorem dX5_readTaken_85 : decode cX5_readTaken 85 = .ok (.aload_n 0, 1) := by decide +kernel
theorem dX5_readTaken_86 : decode cX5_readTaken 86 = .ok (.getfield 12, 3) := by decide +kernel
theorem dX5_readTaken_89 : decode cX5_readTaken 89 = .ok (.iload 5, 2) := by decide +kernel
theorem dX5_readTaken_91 : decode cX5_readTaken 91 = .ok (.invokevirtual 61, 3) := by decide +kernel
theorem dX5_readTaken_94 : decode cX5_readTaken 94 = .ok (.iastore, 1) := by decide +kernel
theorem dX5_readTaken_95 : decode cX5_readTaken 95 = .ok (.iinc 5 1, 3) := by decide +kernel
theorem dX5_readTaken_98 : decode cX5_readTaken 98 = .ok (.iinc 6 1, 3) := by decide +kernel
theorem dX5_readTaken_101 : decode cX5_readTaken 101 = .ok (.goto (-95), 3) := by decide +kernel
theorem dX5_readTaken_104 : decode cX5_readTaken 104 = .ok (.aload_n 0, 1) := by decide +kernel
theorem dX5_readTaken_105 : decode cX5_readTaken 105 = .ok (.iload 5, 2) := by decide +kernel
theorem dX5_readTaken_107 : decode cX5_readTaken 107 = .ok (.iconst 5, 1) := by decide +kernel
theorem dX5_readTaken_108 : decode cX5_readTaken 108 = .ok (.invokevirtual 57, 3) := by decide +kernel
theorem dX5_readTaken_111 : decode cX5_readTaken 111 = .ok (.pop, 1) := by decide +kernel
theorem dX5_readTaken_112 : decode cX5_readTaken 112 = .ok (.iload 5, 2) := by decide +kernel
theorem dX5_readTaken_114 : decode cX5_readTaken 114 = .ok (.iconst 1, 1) := by decide +kernel
theorem dX5_readTaken_115 : decode cX5_readTaken 115 = .ok (.iadd, 1) := by decide +kernel
theorem dX5_readTaken_116 : decode cX5_readTaken 116 = .ok (.ireturn, 1) := by decide +kernel
theorem dX5_tokenFor_0 : decode cX5_tokenFor 0 = .ok (.iload_n 0, 1) := by decide +kernel
theorem dX5_tokenFor_1 : decode cX5_tokenFor 1 = .ok (.bipush 72, 2) := by decide +kernel
theorem dX5_tokenFor_3 : decode cX5_tokenFor 3 = .ok (.if_icmp .ne 7, 3) := by decide +kernel
theorem dX5_tokenFor_6 : decode cX5_tokenFor 6 = .ok (.iconst 1, 1) := by decide +kernel
theorem dX5_tokenFor_7 : decode cX5_tokenFor 7 = .ok (.goto 14, 3) := by decide +kernel
theorem dX5_tokenFor_10 : decode cX5_tokenFor 10 = .ok (.iload_n 0, 1) := by decide +kernel
theorem dX5_tokenFor_11 : decode cX5_tokenFor 11 = .ok (.bipush 78, 2) := by decide +kernel
theorem dX5_tokenFor_13 : decode cX5_tokenFor 13 = .ok (.if_icmp .ne 7, 3) := by decide +kernel
theorem dX5_tokenFor_16 : decode cX5_tokenFor 16 = .ok (.iconst 0, 1) := by decide +kernel
theorem dX5_tokenFor_17 : decode cX5_tokenFor 17 = .ok (.goto 4, 3) := by decide +kernel
theorem dX5_tokenFor_20 : decode cX5_tokenFor 20 = .ok (.iconst 3, 1) := by decide +kernel
theorem dX5_tokenFor_21 : decode cX5_tokenFor 21 = .ok (.ireturn, 1) := by decide +kernel
theorem dX5_bindLabels_0 : decode cX5_bindLabels 0 = .ok (.iconst 0, 1) := by decide +kernel
theorem dX5_bindLabels_1 : decode cX5_bindLabels 1 = .ok (.istore_n 2, 1) := by decide +kernel
theorem dX5_bindLabels_2 : decode cX5_bindLabels 2 = .ok (.iload_n 2, 1) := by decide +kernel
theorem dX5_bindLabels_3 : decode cX5_bindLabels 3 = .ok (.aload_n 1, 1) := by decide +kernel
theorem dX5_bindLabels_4 : decode cX5_bindLabels 4 = .ok (.getfield 22, 3) := by decide +kernel
theorem dX5_bindLabels_7 : decode cX5_bindLabels 7 = .ok (.if_icmp .ge 78, 3) := by decide +kernel
theorem dX5_bindLabels_10 : decode cX5_bindLabels 10 = .ok (.aload_n 0, 1) := by decide +kernel
theorem dX5_bindLabels_11 : decode cX5_bindLabels 11 = .ok (.getfield 18, 3) := by decide +kernel
theorem dX5_bindLabels_14 : decode cX5_bindLabels 14 = .ok (.ifCond .ne 71, 3) := by decide +kernel
theorem dX5_bindLabels_17 : decode cX5_bindLabels 17 = .ok (.getstatic 82, 3) := by decide +kernel
theorem dX5_bindLabels_20 : decode cX5_bindLabels 20 = .ok (.aload_n 1, 1) := by decide +kernel
theorem dX5_bindLabels_21 : decode cX5_bindLabels 21 = .ok (.getfield 72, 3) := by decide +kernel
theorem dX5_bindLabels_24 : decode cX5_bindLabels 24 = .ok (.iload_n 2, 1) := by decide +kernel
theorem dX5_bindLabels_25 : decode cX5_bindLabels 25 = .ok (.iaload, 1) := by decide +kernel
theorem dX5_bindLabels_26 : decode cX5_bindLabels 26 = .ok (.aaload, 1) := by decide +kernel
theorem dX5_bindLabels_27 : decode cX5_bindLabels 27 = .ok (.getfield 86, 3) := by decide +kernel
theorem dX5_bindLabels_30 : decode cX5_bindLabels 30 = .ok (.astore_n 3, 1) := by decide +kernel
theorem dX5_bindLabels_31 : decode cX5_bindLabels 31 = .ok (.iconst 0, 1) := by decide +kernel
theorem dX5_bindLabels_32 : decode cX5_bindLabels 32 = .ok (.istore 4, 2) := by decide +kernel
theorem dX5_bindLabels_34 : decode cX5_bindLabels 34 = .ok (.iload 4, 2) := by decide +kernel
theorem dX5_bindLabels_36 : decode cX5_bindLabels 36 = .ok (.aload_n 3, 1) := by decide +kernel
theorem dX5_bindLabels_37 : decode cX5_bindLabels 37 = .ok (.invokevirtual 103, 3) := by decide +kernel
theorem dX5_bindLabels_40 : decode cX5_bindLabels 40 = .ok (.if_icmp .ge 39, 3) := by decide +kernel
theorem dX5_bindLabels_43 : decode cX5_bindLabels 43 = .ok (.iload 4, 2) := by decide +kernel
theorem dX5_bindLabels_45 : decode cX5_bindLabels 45 = .ok (.iconst 3, 1) := by decide +kernel
theorem dX5_bindLabels_46 : decode cX5_bindLabels 46 = .ok (.if_icmp .ge 33, 3) := by decide +kernel
theorem dX5_bindLabels_49 : decode cX5_bindLabels 49 = .ok (.aload_n 3, 1) := by decide +kernel
theorem dX5_bindLabels_50 : decode cX5_bindLabels 50 = .ok (.iload 4, 2) := by decide +kernel
theorem dX5_bindLabels_52 : decode cX5_bindLabels 52 = .ok (.invokevirtual 109, 3) := by decide +kernel
theorem dX5_bindLabels_55 : decode cX5_bindLabels 55 = .ok (.invokestatic 113, 3) := by decide +kernel
theorem dX5_bindLabels_58 : decode cX5_bindLabels 58 = .ok (.iconst 3, 1) := by decide +kernel
theorem dX5_bindLabels_59 : decode cX5_bindLabels 59 = .ok (.if_icmp .ne 14, 3) := by decide +kernel
theorem dX5_bindLabels_62 : decode cX5_bindLabels 62 = .ok (.aload_n 0, 1) := by decide +kernel
theorem dX5_bindLabels_63 : decode cX5_bindLabels 63 = .ok (.aload_n 1, 1) := by decide +kernel
theorem dX5_bindLabels_64 : decode cX5_bindLabels 64 = .ok (.iload_n 2, 1) := by decide +kernel
theorem dX5_bindLabels_65 : decode cX5_bindLabels 65 = .ok (.iconst 3, 1) := by decide +kernel
theorem dX5_bindLabels_66 : decode cX5_bindLabels 66 = .ok (.imul, 1) := by decide +kernel
theorem dX5_bindLabels_67 : decode cX5_bindLabels 67 = .ok (.iload 4, 2) := by decide +kernel
theorem dX5_bindLabels_69 : decode cX5_bindLabels 69 = .ok (.iadd, 1) := by decide +kernel
theorem dX5_bindLabels_70 : decode cX5_bindLabels 70 = .ok (.invokevirtual 120, 3) := by decide +kernel
theorem dX5_bindLabels_73 : decode cX5_bindLabels 73 = .ok (.iinc 4 1, 3) := by decide +kernel
theorem dX5_bindLabels_76 : decode cX5_bindLabels 76 = .ok (.goto (-42), 3) := by decide +kernel
theorem dX5_bindLabels_79 : decode cX5_bindLabels 79 = .ok (.iinc 2 1, 3) := by decide +kernel
theorem dX5_bindLabels_82 : decode cX5_bindLabels 82 = .ok (.goto (-80), 3) := by decide +kernel
theorem dX5_bindLabels_85 : decode cX5_bindLabels 85 = .ok (.return_, 1) := by decide +kernel
theorem dX5_bind_0 : decode cX5_bind 0 = .ok (.aload_n 1, 1) := by decide +kernel
theorem dX5_bind_1 : decode cX5_bind 1 = .ok (.getfield 117, 3) := by decide +kernel
theorem dX5_bind_4 : decode cX5_bind 4 = .ok (.iload_n 2, 1) := by decide +kernel
theorem dX5_bind_5 : decode cX5_bind 5 = .ok (.iaload, 1) := by decide +kernel
theorem dX5_bind_6 : decode cX5_bind 6 = .ok (.istore_n 3, 1) := by decide +kernel
theorem dX5_bind_7 : decode cX5_bind 7 = .ok (.aload_n 1, 1) := by decide +kernel
theorem dX5_bind_8 : decode cX5_bind 8 = .ok (.aload_n 0, 1) := by decide +kernel
theorem dX5_bind_9 : decode cX5_bind 9 = .ok (.getfield 12, 3) := by decide +kernel
theorem dX5_bind_12 : decode cX5_bind 12 = .ok (.iload_n 3, 1) := by decide +kernel
theorem dX5_bind_13 : decode cX5_bind 13 = .ok (.invokevirtual 68, 3) := by decide +kernel
theorem dX5_bind_16 : decode cX5_bind 16 = .ok (.invokevirtual 99, 3) := by decide +kernel
theorem dX5_bind_19 : decode cX5_bind 19 = .ok (.istore 4, 2) := by decide +kernel
theorem dX5_bind_21 : decode cX5_bind 21 = .ok (.iload 4, 2) := by decide +kernel
theorem dX5_bind_23 : decode cX5_bind 23 = .ok (.iconst (-1), 1) := by decide +kernel
theorem dX5_bind_24 : decode cX5_bind 24 = .ok (.if_icmp .ne 13, 3) := by decide +kernel
theorem dX5_bind_27 : decode cX5_bind 27 = .ok (.aload_n 0, 1) := by decide +kernel
theorem dX5_bind_28 : decode cX5_bind 28 = .ok (.iconst 4, 1) := by decide +kernel
theorem dX5_bind_29 : decode cX5_bind 29 = .ok (.iload_n 3, 1) := by decide +kernel
theorem dX5_bind_30 : decode cX5_bind 30 = .ok (.invokevirtual 96, 3) := by decide +kernel
theorem dX5_bind_33 : decode cX5_bind 33 = .ok (.pop, 1) := by decide +kernel
theorem dX5_bind_34 : decode cX5_bind 34 = .ok (.goto 11, 3) := by decide +kernel
theorem dX5_bind_37 : decode cX5_bind 37 = .ok (.aload_n 1, 1) := by decide +kernel
theorem dX5_bind_38 : decode cX5_bind 38 = .ok (.getfield 117, 3) := by decide +kernel
theorem dX5_bind_41 : decode cX5_bind 41 = .ok (.iload_n 2, 1) := by decide +kernel
theorem dX5_bind_42 : decode cX5_bind 42 = .ok (.iload 4, 2) := by decide +kernel
theorem dX5_bind_44 : decode cX5_bind 44 = .ok (.iastore, 1) := by decide +kernel
theorem dX5_bind_45 : decode cX5_bind 45 = .ok (.return_, 1) := by decide +kernel
theorem dX5_stands_0 : decode cX5_stands 0 = .ok (.aload_n 0, 1) := by decide +kernel
theorem dX5_stands_1 : decode cX5_stands 1 = .ok (.getfield 12, 3) := by decide +kernel
theorem dX5_stands_4 : decode cX5_stands 4 = .ok (.iload_n 1, 1) := by decide +kernel
theorem dX5_stands_5 : decode cX5_stands 5 = .ok (.invokevirtual 53, 3) := by decide +kernel
theorem dX5_stands_8 : decode cX5_stands 8 = .ok (.iload_n 2, 1) := by decide +kernel
theorem dX5_stands_9 : decode cX5_stands 9 = .ok (.if_icmp .eq 12, 3) := by decide +kernel
theorem dX5_stands_12 : decode cX5_stands 12 = .ok (.aload_n 0, 1) := by decide +kernel
theorem dX5_stands_13 : decode cX5_stands 13 = .ok (.iconst 2, 1) := by decide +kernel
theorem dX5_stands_14 : decode cX5_stands 14 = .ok (.iload_n 1, 1) := by decide +kernel
theorem dX5_stands_15 : decode cX5_stands 15 = .ok (.invokevirtual 96, 3) := by decide +kernel
theorem dX5_stands_18 : decode cX5_stands 18 = .ok (.ifCond .eq 7, 3) := by decide +kernel
theorem dX5_stands_21 : decode cX5_stands 21 = .ok (.iconst 1, 1) := by decide +kernel
theorem dX5_stands_22 : decode cX5_stands 22 = .ok (.goto 4, 3) := by decide +kernel
theorem dX5_stands_25 : decode cX5_stands 25 = .ok (.iconst 0, 1) := by decide +kernel
theorem dX5_stands_26 : decode cX5_stands 26 = .ok (.ireturn, 1) := by decide +kernel
theorem dX5_refuse_0 : decode cX5_refuse 0 = .ok (.aload_n 0, 1) := by decide +kernel
theorem dX5_refuse_1 : decode cX5_refuse 1 = .ok (.iload_n 1, 1) := by decide +kernel
theorem dX5_refuse_2 : decode cX5_refuse 2 = .ok (.putfield 18, 3) := by decide +kernel
theorem dX5_refuse_5 : decode cX5_refuse 5 = .ok (.aload_n 0, 1) := by decide +kernel
theorem dX5_refuse_6 : decode cX5_refuse 6 = .ok (.aload_n 0, 1) := by decide +kernel
theorem dX5_refuse_7 : decode cX5_refuse 7 = .ok (.getfield 12, 3) := by decide +kernel
theorem dX5_refuse_10 : decode cX5_refuse 10 = .ok (.iload_n 2, 1) := by decide +kernel
theorem dX5_refuse_11 : decode cX5_refuse 11 = .ok (.invokevirtual 79, 3) := by decide +kernel
theorem dX5_refuse_14 : decode cX5_refuse 14 = .ok (.putfield 31, 3) := by decide +kernel
theorem dX5_refuse_17 : decode cX5_refuse 17 = .ok (.iconst 0, 1) := by decide +kernel
theorem dX5_refuse_18 : decode cX5_refuse 18 = .ok (.ireturn, 1) := by decide +kernel
theorem dX6_init_0 : decode cX6_init 0 = .ok (.aload_n 0, 1) := by decide +kernel
theorem dX6_init_1 : decode cX6_init 1 = .ok (.invokespecial 3, 3) := by decide +kernel
theorem dX6_init_4 : decode cX6_init 4 = .ok (.aload_n 0, 1) := by decide +kernel
theorem dX6_init_5 : decode cX6_init 5 = .ok (.bipush 30, 2) := by decide +kernel
theorem dX6_init_7 : decode cX6_init 7 = .ok (.newarray .int, 2) := by decide +kernel
theorem dX6_init_9 : decode cX6_init 9 = .ok (.putfield 11, 3) := by decide +kernel
theorem dX6_init_12 : decode cX6_init 12 = .ok (.aload_n 0, 1) := by decide +kernel
theorem dX6_init_13 : decode cX6_init 13 = .ok (.sipush 300, 3) := by decide +kernel
theorem dX6_init_16 : decode cX6_init 16 = .ok (.newarray .int, 2) := by decide +kernel
theorem dX6_init_18 : decode cX6_init 18 = .ok (.putfield 15, 3) := by decide +kernel
theorem dX6_init_21 : decode cX6_init 21 = .ok (.aload_n 0, 1) := by decide +kernel
theorem dX6_init_22 : decode cX6_init 22 = .ok (.aload_n 1, 1) := by decide +kernel
theorem dX6_init_23 : decode cX6_init 23 = .ok (.putfield 18, 3) := by decide +kernel
theorem dX6_init_26 : decode cX6_init 26 = .ok (.aload_n 0, 1) := by decide +kernel
theorem dX6_init_27 : decode cX6_init 27 = .ok (.aload_n 2, 1) := by decide +kernel
theorem dX6_init_28 : decode cX6_init 28 = .ok (.putfield 22, 3) := by decide +kernel
theorem dX6_init_31 : decode cX6_init 31 = .ok (.return_, 1) := by decide +kernel
theorem dX6_forget_0 : decode cX6_forget 0 = .ok (.aload_n 0, 1) := by decide +kernel
theorem dX6_forget_1 : decode cX6_forget 1 = .ok (.iconst 0, 1) := by decide +kernel
theorem dX6_forget_2 : decode cX6_forget 2 = .ok (.putfield 26, 3) := by decide +kernel
theorem dX6_forget_5 : decode cX6_forget 5 = .ok (.aload_n 0, 1) := by decide +kernel
theorem dX6_forget_6 : decode cX6_forget 6 = .ok (.iconst 0, 1) := by decide +kernel
theorem dX6_forget_7 : decode cX6_forget 7 = .ok (.putfield 30, 3) := by decide +kernel
theorem dX6_forget_10 : decode cX6_forget 10 = .ok (.aload_n 0, 1) := by decide +kernel
theorem dX6_forget_11 : decode cX6_forget 11 = .ok (.iconst 0, 1) := by decide +kernel
theorem dX6_forget_12 : decode cX6_forget 12 = .ok (.putfield 33, 3) := by decide +kernel
theorem dX6_forget_15 : decode cX6_forget 15 = .ok (.aload_n 0, 1) := by decide +kernel
theorem dX6_forget_16 : decode cX6_forget 16 = .ok (.iconst 0, 1) := by decide +kernel
theorem dX6_forget_17 : decode cX6_forget 17 = .ok (.putfield 36, 3) := by decide +kernel
theorem dX6_forget_20 : decode cX6_forget 20 = .ok (.aload_n 0, 1) := by decide +kernel
theorem dX6_forget_21 : decode cX6_forget 21 = .ok (.iconst 0, 1) := by decide +kernel
theorem dX6_forget_22 : decode cX6_forget 22 = .ok (.putfield 39, 3) := by decide +kernel
theorem dX6_forget_25 : decode cX6_forget 25 = .ok (.aload_n 0, 1) := by decide +kernel
theorem dX6_forget_26 : decode cX6_forget 26 = .ok (.iconst 0, 1) := by decide +kernel
theorem dX6_forget_27 : decode cX6_forget 27 = .ok (.putfield 42, 3) := by decide +kernel
theorem dX6_forget_30 : decode cX6_forget 30 = .ok (.return_, 1) := by decide +kernel
theorem dX6_start_0 : decode cX6_start 0 = .ok (.aload_n 0, 1) := by decide +kernel
theorem dX6_start_1 : decode cX6_start 1 = .ok (.invokevirtual 45, 3) := by decide +kernel
theorem dX6_start_4 : decode cX6_start 4 = .ok (.aload_n 0, 1) := by decide +kernel
theorem dX6_start_5 : decode cX6_start 5 = .ok (.aload_n 1, 1) := by decide +kernel
theorem dX6_start_6 : decode cX6_start 6 = .ok (.putfield 22, 3) := by decide +kernel
theorem dX6_start_9 : decode cX6_start 9 = .ok (.aload_n 0, 1) := by decide +kernel
theorem dX6_start_10 : decode cX6_start 10 = .ok (.iconst 0, 1) := by decide +kernel
theorem dX6_start_11 : decode cX6_start 11 = .ok (.invokevirtual 48, 3) := by decide +kernel
theorem dX6_start_14 : decode cX6_start 14 = .ok (.pop, 1) := by decide +kernel
theorem dX6_start_15 : decode cX6_start 15 = .ok (.return_, 1) := by decide +kernel
theorem dX6_hasSaid_0 : decode cX6_hasSaid 0 = .ok (.iload_n 1, 1) := by decide +kernel
theorem dX6_hasSaid_1 : decode cX6_hasSaid 1 = .ok (.ifCond .lt 22, 3) := by decide +kernel
theorem dX6_hasSaid_4 : decode cX6_hasSaid 4 = .ok (.iload_n 1, 1) := by decide +kernel
theorem dX6_hasSaid_5 : decode cX6_hasSaid 5 = .ok (.aload_n 0, 1) := by decide +kernel
theorem dX6_hasSaid_6 : decode cX6_hasSaid 6 = .ok (.getfield 42, 3) := by decide +kernel
theorem dX6_hasSaid_9 : decode cX6_hasSaid 9 = .ok (.if_icmp .ge 14, 3) := by decide +kernel
theorem dX6_hasSaid_12 : decode cX6_hasSaid 12 = .ok (.iload_n 1, 1) := by decide +kernel
theorem dX6_hasSaid_13 : decode cX6_hasSaid 13 = .ok (.sipush 300, 3) := by decide +kernel
theorem dX6_hasSaid_16 : decode cX6_hasSaid 16 = .ok (.if_icmp .ge 7, 3) := by decide +kernel
theorem dX6_hasSaid_19 : decode cX6_hasSaid 19 = .ok (.iconst 1, 1) := by decide +kernel
theorem dX6_hasSaid_20 : decode cX6_hasSaid 20 = .ok (.goto 4, 3) := by decide +kernel
theorem dX6_hasSaid_23 : decode cX6_hasSaid 23 = .ok (.iconst 0, 1) := by decide +kernel
theorem dX6_hasSaid_24 : decode cX6_hasSaid 24 = .ok (.ireturn, 1) := by decide +kernel
theorem dX6_hasNext_0 : decode cX6_hasNext 0 = .ok (.aload_n 0, 1) := by decide +kernel
theorem dX6_hasNext_1 : decode cX6_hasNext 1 = .ok (.getfield 26, 3) := by decide +kernel
theorem dX6_hasNext_4 : decode cX6_hasNext 4 = .ok (.iconst 1, 1) := by decide +kernel
theorem dX6_hasNext_5 : decode cX6_hasNext 5 = .ok (.if_icmp .eq 11, 3) := by decide +kernel
theorem dX6_hasNext_8 : decode cX6_hasNext 8 = .ok (.aload_n 0, 1) := by decide +kernel
theorem dX6_hasNext_9 : decode cX6_hasNext 9 = .ok (.getfield 26, 3) := by decide +kernel
theorem dX6_hasNext_12 : decode cX6_hasNext 12 = .ok (.iconst 3, 1) := by decide +kernel
theorem dX6_hasNext_13 : decode cX6_hasNext 13 = .ok (.if_icmp .ne 7, 3) := by decide +kernel
theorem dX6_hasNext_16 : decode cX6_hasNext 16 = .ok (.iconst 1, 1) := by decide +kernel
theorem dX6_hasNext_17 : decode cX6_hasNext 17 = .ok (.goto 4, 3) := by decide +kernel
theorem dX6_hasNext_20 : decode cX6_hasNext 20 = .ok (.iconst 0, 1) := by decide +kernel
theorem dX6_hasNext_21 : decode cX6_hasNext 21 = .ok (.ireturn, 1) := by decide +kernel
theorem dX6_nextAct_0 : decode cX6_nextAct 0 = .ok (.aload_n 0, 1) := by decide +kernel
theorem dX6_nextAct_1 : decode cX6_nextAct 1 = .ok (.invokevirtual 52, 3) := by decide +kernel
theorem dX6_nextAct_4 : decode cX6_nextAct 4 = .ok (.ifCond .eq 10, 3) := by decide +kernel
theorem dX6_nextAct_7 : decode cX6_nextAct 7 = .ok (.aload_n 0, 1) := by decide +kernel
theorem dX6_nextAct_8 : decode cX6_nextAct 8 = .ok (.getfield 33, 3) := by decide +kernel
theorem dX6_nextAct_11 : decode cX6_nextAct 11 = .ok (.goto 4, 3) := by decide +kernel
theorem dX6_nextAct_14 : decode cX6_nextAct 14 = .ok (.iconst (-1), 1) := by decide +kernel
theorem dX6_nextAct_15 : decode cX6_nextAct 15 = .ok (.ireturn, 1) := by decide +kernel
theorem dX6_nextPlace_0 : decode cX6_nextPlace 0 = .ok (.aload_n 0, 1) := by decide +kernel
theorem dX6_nextPlace_1 : decode cX6_nextPlace 1 = .ok (.invokevirtual 52, 3) := by decide +kernel
theorem dX6_nextPlace_4 : decode cX6_nextPlace 4 = .ok (.ifCond .eq 18, 3) := by decide +kernel
theorem dX6_nextPlace_7 : decode cX6_nextPlace 7 = .ok (.aload_n 0, 1) := by decide +kernel
theorem dX6_nextPlace_8 : decode cX6_nextPlace 8 = .ok (.getfield 22, 3) := by decide +kernel
theorem dX6_nextPlace_11 : decode cX6_nextPlace 11 = .ok (.getfield 56, 3) := by decide +kernel
theorem dX6_nextPlace_14 : decode cX6_nextPlace 14 = .ok (.aload_n 0, 1) := by decide +kernel
theorem dX6_nextPlace_15 : decode cX6_nextPlace 15 = .ok (.getfield 33, 3) := by decide +kernel
theorem dX6_nextPlace_18 : decode cX6_nextPlace 18 = .ok (.iaload, 1) := by decide +kernel
theorem dX6_nextPlace_19 : decode cX6_nextPlace 19 = .ok (.goto 4, 3) := by decide +kernel
theorem dX6_nextPlace_22 : decode cX6_nextPlace 22 = .ok (.iconst (-1), 1) := by decide +kernel
theorem dX6_nextPlace_23 : decode cX6_nextPlace 23 = .ok (.ireturn, 1) := by decide +kernel
theorem dX6_step_0 : decode cX6_step 0 = .ok (.aload_n 0, 1) := by decide +kernel
theorem dX6_step_1 : decode cX6_step 1 = .ok (.invokevirtual 52, 3) := by decide +kernel
theorem dX6_step_4 : decode cX6_step 4 = .ok (.ifCond .ne 5, 3) := by decide +kernel
theorem dX6_step_7 : decode cX6_step 7 = .ok (.iconst 0, 1) := by decide +kernel
theorem dX6_step_8 : decode cX6_step 8 = .ok (.ireturn, 1) := by decide +kernel
theorem dX6_step_9 : decode cX6_step 9 = .ok (.aload_n 0, 1) := by decide +kernel
theorem dX6_step_10 : decode cX6_step 10 = .ok (.getfield 22, 3) := by decide +kernel
theorem dX6_step_13 : decode cX6_step 13 = .ok (.getfield 61, 3) := by decide +kernel
theorem dX6_step_16 : decode cX6_step 16 = .ok (.aload_n 0, 1) := by decide +kernel
theorem dX6_step_17 : decode cX6_step 17 = .ok (.getfield 33, 3) := by decide +kernel
theorem dX6_step_20 : decode cX6_step 20 = .ok (.iaload, 1) := by decide +kernel
theorem dX6_step_21 : decode cX6_step 21 = .ok (.istore_n 1, 1) := by decide +kernel
theorem dX6_step_22 : decode cX6_step 22 = .ok (.aload_n 0, 1) := by decide +kernel
theorem dX6_step_23 : decode cX6_step 23 = .ok (.getfield 22, 3) := by decide +kernel
theorem dX6_step_26 : decode cX6_step 26 = .ok (.getfield 64, 3) := by decide +kernel
theorem dX6_step_29 : decode cX6_step 29 = .ok (.astore_n 2, 1) := by decide +kernel
theorem dX6_step_30 : decode cX6_step 30 = .ok (.aload_n 0, 1) := by decide +kernel
theorem dX6_step_31 : decode cX6_step 31 = .ok (.getfield 33, 3) := by decide +kernel
theorem dX6_step_34 : decode cX6_step 34 = .ok (.iconst 3, 1) := by decide +kernel
theorem dX6_step_35 : decode cX6_step 35 = .ok (.imul, 1) := by decide +kernel
theorem dX6_step_36 : decode cX6_step 36 = .ok (.istore_n 3, 1) := by decide +kernel
theorem dX6_step_37 : decode cX6_step 37 = .ok (.iload_n 1, 1) := by decide +kernel
theorem dX6_step_38 : decode cX6_step 38 = .ok (.bipush 19, 2) := by decide +kernel
theorem dX6_step_40 : decode cX6_step 40 = .ok (.if_icmp .le 27, 3) := by decide +kernel
theorem dX6_step_43 : decode cX6_step 43 = .ok (.aload_n 0, 1) := by decide +kernel
theorem dX6_step_44 : decode cX6_step 44 = .ok (.aload_n 0, 1) := by decide +kernel
theorem dX6_step_45 : decode cX6_step 45 = .ok (.getstatic 67, 3) := by decide +kernel
theorem dX6_step_48 : decode cX6_step 48 = .ok (.iload_n 1, 1) := by decide +kernel
theorem dX6_step_49 : decode cX6_step 49 = .ok (.aaload, 1) := by decide +kernel
theorem dX6_step_50 : decode cX6_step 50 = .ok (.aload_n 2, 1) := by decide +kernel
theorem dX6_step_51 : decode cX6_step 51 = .ok (.iload_n 3, 1) := by decide +kernel
theorem dX6_step_52 : decode cX6_step 52 = .ok (.iaload, 1) := by decide +kernel
theorem dX6_step_53 : decode cX6_step 53 = .ok (.aload_n 2, 1) := by decide +kernel
theorem dX6_step_54 : decode cX6_step 54 = .ok (.iload_n 3, 1) := by decide +kernel
theorem dX6_step_55 : decode cX6_step 55 = .ok (.iconst 1, 1) := by decide +kernel
theorem dX6_step_56 : decode cX6_step 56 = .ok (.iadd, 1) := by decide +kernel
theorem dX6_step_57 : decode cX6_step 57 = .ok (.iaload, 1) := by decide +kernel
theorem dX6_step_58 : decode cX6_step 58 = .ok (.invokevirtual 71, 3) := by decide +kernel
theorem dX6_step_61 : decode cX6_step 61 = .ok (.putfield 30, 3) := by decide +kernel
theorem dX6_step_64 : decode cX6_step 64 = .ok (.goto 50, 3) := by decide +kernel
theorem dX6_step_67 : decode cX6_step 67 = .ok (.aload_n 0, 1) := by decide +kernel
theorem dX6_step_68 : decode cX6_step 68 = .ok (.aload_n 0, 1) := by decide +kernel
theorem dX6_step_69 : decode cX6_step 69 = .ok (.getfield 18, 3) := by decide +kernel
theorem dX6_step_72 : decode cX6_step 72 = .ok (.getstatic 67, 3) := by decide +kernel
theorem dX6_step_75 : decode cX6_step 75 = .ok (.iload_n 1, 1) := by decide +kernel
theorem dX6_step_76 : decode cX6_step 76 = .ok (.aaload, 1) := by decide +kernel
theorem dX6_step_77 : decode cX6_step 77 = .ok (.aload_n 2, 1) := by decide +kernel
theorem dX6_step_78 : decode cX6_step 78 = .ok (.iload_n 3, 1) := by decide +kernel
theorem dX6_step_79 : decode cX6_step 79 = .ok (.iaload, 1) := by decide +kernel
theorem dX6_step_80 : decode cX6_step 80 = .ok (.aload_n 2, 1) := by decide +kernel
theorem dX6_step_81 : decode cX6_step 81 = .ok (.iload_n 3, 1) := by decide +kernel
theorem dX6_step_82 : decode cX6_step 82 = .ok (.iconst 1, 1) := by decide +kernel
theorem dX6_step_83 : decode cX6_step 83 = .ok (.iadd, 1) := by decide +kernel
theorem dX6_step_84 : decode cX6_step 84 = .ok (.iaload, 1) := by decide +kernel
theorem dX6_step_85 : decode cX6_step 85 = .ok (.aload_n 2, 1) := by decide +kernel
theorem dX6_step_86 : decode cX6_step 86 = .ok (.iload_n 3, 1) := by decide +kernel
theorem dX6_step_87 : decode cX6_step 87 = .ok (.iconst 2, 1) := by decide +kernel
theorem dX6_step_88 : decode cX6_step 88 = .ok (.iadd, 1) := by decide +kernel
theorem dX6_step_89 : decode cX6_step 89 = .ok (.iaload, 1) := by decide +kernel
theorem dX6_step_90 : decode cX6_step 90 = .ok (.invokevirtual 75, 3) := by decide +kernel
theorem dX6_step_93 : decode cX6_step 93 = .ok (.putfield 30, 3) := by decide +kernel
theorem dX6_step_96 : decode cX6_step 96 = .ok (.aload_n 0, 1) := by decide +kernel
theorem dX6_step_97 : decode cX6_step 97 = .ok (.getfield 30, 3) := by decide +kernel
theorem dX6_step_100 : decode cX6_step 100 = .ok (.ifCond .ne 14, 3) := by decide +kernel
theorem dX6_step_103 : decode cX6_step 103 = .ok (.aload_n 0, 1) := by decide +kernel
theorem dX6_step_104 : decode cX6_step 104 = .ok (.aload_n 0, 1) := by decide +kernel
theorem dX6_step_105 : decode cX6_step 105 = .ok (.getfield 33, 3) := by decide +kernel
theorem dX6_step_108 : decode cX6_step 108 = .ok (.iconst 1, 1) := by decide +kernel
theorem dX6_step_109 : decode cX6_step 109 = .ok (.iadd, 1) := by decide +kernel
theorem dX6_step_110 : decode cX6_step 110 = .ok (.invokevirtual 48, 3) := by decide +kernel
theorem dX6_step_113 : decode cX6_step 113 = .ok (.pop, 1) := by decide +kernel
theorem dX6_step_114 : decode cX6_step 114 = .ok (.aload_n 0, 1) := by decide +kernel
theorem dX6_step_115 : decode cX6_step 115 = .ok (.getfield 30, 3) := by decide +kernel
theorem dX6_step_118 : decode cX6_step 118 = .ok (.ifCond .eq 10, 3) := by decide +kernel
theorem dX6_step_121 : decode cX6_step 121 = .ok (.aload_n 0, 1) := by decide +kernel
theorem dX6_step_122 : decode cX6_step 122 = .ok (.iconst 3, 1) := by decide +kernel
theorem dX6_step_123 : decode cX6_step 123 = .ok (.putfield 26, 3) := by decide +kernel
theorem dX6_step_126 : decode cX6_step 126 = .ok (.iconst 0, 1) := by decide +kernel
theorem dX6_step_127 : decode cX6_step 127 = .ok (.ireturn, 1) := by decide +kernel
theorem dX6_step_128 : decode cX6_step 128 = .ok (.aload_n 0, 1) := by decide +kernel
theorem dX6_step_129 : decode cX6_step 129 = .ok (.dup, 1) := by decide +kernel
theorem dX6_step_130 : decode cX6_step 130 = .ok (.getfield 36, 3) := by decide +kernel
theorem dX6_step_133 : decode cX6_step 133 = .ok (.iconst 1, 1) := by decide +kernel
theorem dX6_step_134 : decode cX6_step 134 = .ok (.iadd, 1) := by decide +kernel
theorem dX6_step_135 : decode cX6_step 135 = .ok (.putfield 36, 3) := by decide +kernel
theorem dX6_step_138 : decode cX6_step 138 = .ok (.iconst 1, 1) := by decide +kernel
theorem dX6_step_139 : decode cX6_step 139 = .ok (.ireturn, 1) := by decide +kernel
theorem dX6_steer_0 : decode cX6_steer 0 = .ok (.getstatic 81, 3) := by decide +kernel
theorem dX6_steer_3 : decode cX6_steer 3 = .ok (.aload_n 1, 1) := by decide +kernel
theorem dX6_steer_4 : decode cX6_steer 4 = .ok (.invokevirtual 86, 3) := by decide +kernel
theorem dX6_steer_7 : decode cX6_steer 7 = .ok (.iaload, 1) := by decide +kernel
theorem dX6_steer_8 : decode cX6_steer 8 = .ok (.tableswitch 96 21 25 #[36, 42, 48, 85, 91], 36) := by decide +kernel
theorem dX6_steer_44 : decode cX6_steer 44 = .ok (.aload_n 0, 1) := by decide +kernel
theorem dX6_steer_45 : decode cX6_steer 45 = .ok (.iload_n 2, 1) := by decide +kernel
theorem dX6_steer_46 : decode cX6_steer 46 = .ok (.invokevirtual 92, 3) := by decide +kernel
theorem dX6_steer_49 : decode cX6_steer 49 = .ok (.ireturn, 1) := by decide +kernel
theorem dX6_steer_50 : decode cX6_steer 50 = .ok (.aload_n 0, 1) := by decide +kernel
theorem dX6_steer_51 : decode cX6_steer 51 = .ok (.iload_n 2, 1) := by decide +kernel
theorem dX6_steer_52 : decode cX6_steer 52 = .ok (.invokevirtual 48, 3) := by decide +kernel
theorem dX6_steer_55 : decode cX6_steer 55 = .ok (.ireturn, 1) := by decide +kernel
theorem dX6_steer_56 : decode cX6_steer 56 = .ok (.aload_n 0, 1) := by decide +kernel
theorem dX6_steer_57 : decode cX6_steer 57 = .ok (.aload_n 0, 1) := by decide +kernel
theorem dX6_steer_58 : decode cX6_steer 58 = .ok (.getfield 18, 3) := by decide +kernel
theorem dX6_steer_61 : decode cX6_steer 61 = .ok (.iload_n 2, 1) := by decide +kernel
theorem dX6_steer_62 : decode cX6_steer 62 = .ok (.invokevirtual 95, 3) := by decide +kernel
theorem dX6_steer_65 : decode cX6_steer 65 = .ok (.ifCond .eq 18, 3) := by decide +kernel
theorem dX6_steer_68 : decode cX6_steer 68 = .ok (.aload_n 0, 1) := by decide +kernel
theorem dX6_steer_69 : decode cX6_steer 69 = .ok (.getfield 18, 3) := by decide +kernel
theorem dX6_steer_72 : decode cX6_steer 72 = .ok (.iload_n 2, 1) := by decide +kernel
theorem dX6_steer_73 : decode cX6_steer 73 = .ok (.invokevirtual 99, 3) := by decide +kernel
theorem dX6_steer_76 : decode cX6_steer 76 = .ok (.ifCond .ne 7, 3) := by decide +kernel
theorem dX6_steer_79 : decode cX6_steer 79 = .ok (.iload_n 3, 1) := by decide +kernel
theorem dX6_steer_80 : decode cX6_steer 80 = .ok (.goto 9, 3) := by decide +kernel
theorem dX6_steer_83 : decode cX6_steer 83 = .ok (.aload_n 0, 1) := by decide +kernel
theorem dX6_steer_84 : decode cX6_steer 84 = .ok (.getfield 33, 3) := by decide +kernel
theorem dX6_steer_87 : decode cX6_steer 87 = .ok (.iconst 1, 1) := by decide +kernel
theorem dX6_steer_88 : decode cX6_steer 88 = .ok (.iadd, 1) := by decide +kernel
theorem dX6_steer_89 : decode cX6_steer 89 = .ok (.invokevirtual 48, 3) := by decide +kernel
theorem dX6_steer_92 : decode cX6_steer 92 = .ok (.ireturn, 1) := by decide +kernel
theorem dX6_steer_93 : decode cX6_steer 93 = .ok (.aload_n 0, 1) := by decide +kernel
theorem dX6_steer_94 : decode cX6_steer 94 = .ok (.iload_n 2, 1) := by decide +kernel
theorem dX6_steer_95 : decode cX6_steer 95 = .ok (.invokevirtual 102, 3) := by decide +kernel
theorem dX6_steer_98 : decode cX6_steer 98 = .ok (.ireturn, 1) := by decide +kernel
theorem dX6_steer_99 : decode cX6_steer 99 = .ok (.aload_n 0, 1) := by decide +kernel
theorem dX6_steer_100 : decode cX6_steer 100 = .ok (.invokevirtual 105, 3) := by decide +kernel
theorem dX6_steer_103 : decode cX6_steer 103 = .ok (.ireturn, 1) := by decide +kernel
theorem dX6_steer_104 : decode cX6_steer 104 = .ok (.aload_n 0, 1) := by decide +kernel
theorem dX6_steer_105 : decode cX6_steer 105 = .ok (.aload_n 0, 1) := by decide +kernel
theorem dX6_steer_106 : decode cX6_steer 106 = .ok (.getfield 22, 3) := by decide +kernel
theorem dX6_steer_109 : decode cX6_steer 109 = .ok (.getfield 108, 3) := by decide +kernel
theorem dX6_steer_112 : decode cX6_steer 112 = .ok (.invokevirtual 48, 3) := by decide +kernel
theorem dX6_steer_115 : decode cX6_steer 115 = .ok (.ireturn, 1) := by decide +kernel
theorem dX6_goOnAt_0 : decode cX6_goOnAt 0 = .ok (.aload_n 0, 1) := by decide +kernel
theorem dX6_goOnAt_1 : decode cX6_goOnAt 1 = .ok (.iload_n 1, 1) := by decide +kernel
theorem dX6_goOnAt_2 : decode cX6_goOnAt 2 = .ok (.putfield 33, 3) := by decide +kernel
theorem dX6_goOnAt_5 : decode cX6_goOnAt 5 = .ok (.aload_n 0, 1) := by decide +kernel
theorem dX6_goOnAt_6 : decode cX6_goOnAt 6 = .ok (.iload_n 1, 1) := by decide +kernel
theorem dX6_goOnAt_7 : decode cX6_goOnAt 7 = .ok (.aload_n 0, 1) := by decide +kernel
theorem dX6_goOnAt_8 : decode cX6_goOnAt 8 = .ok (.getfield 22, 3) := by decide +kernel
theorem dX6_goOnAt_11 : decode cX6_goOnAt 11 = .ok (.getfield 108, 3) := by decide +kernel
theorem dX6_goOnAt_14 : decode cX6_goOnAt 14 = .ok (.if_icmp .ge 7, 3) := by decide +kernel
theorem dX6_goOnAt_17 : decode cX6_goOnAt 17 = .ok (.iconst 1, 1) := by decide +kernel
theorem dX6_goOnAt_18 : decode cX6_goOnAt 18 = .ok (.goto 4, 3) := by decide +kernel
theorem dX6_goOnAt_21 : decode cX6_goOnAt 21 = .ok (.iconst 2, 1) := by decide +kernel
theorem dX6_goOnAt_22 : decode cX6_goOnAt 22 = .ok (.putfield 26, 3) := by decide +kernel
theorem dX6_goOnAt_25 : decode cX6_goOnAt 25 = .ok (.iconst 0, 1) := by decide +kernel
theorem dX6_goOnAt_26 : decode cX6_goOnAt 26 = .ok (.ireturn, 1) := by decide +kernel
theorem dX6_say_0 : decode cX6_say 0 = .ok (.aload_n 0, 1) := by decide +kernel
theorem dX6_say_1 : decode cX6_say 1 = .ok (.getfield 18, 3) := by decide +kernel
theorem dX6_say_4 : decode cX6_say 4 = .ok (.iload_n 1, 1) := by decide +kernel
theorem dX6_say_5 : decode cX6_say 5 = .ok (.invokevirtual 95, 3) := by decide +kernel
theorem dX6_say_8 : decode cX6_say 8 = .ok (.ifCond .ne 5, 3) := by decide +kernel
theorem dX6_say_11 : decode cX6_say 11 = .ok (.iconst 1, 1) := by decide +kernel
theorem dX6_say_12 : decode cX6_say 12 = .ok (.ireturn, 1) := by decide +kernel
theorem dX6_say_13 : decode cX6_say 13 = .ok (.aload_n 0, 1) := by decide +kernel
theorem dX6_say_14 : decode cX6_say 14 = .ok (.getfield 42, 3) := by decide +kernel
theorem dX6_say_17 : decode cX6_say 17 = .ok (.ifCond .lt 30, 3) := by decide +kernel
theorem dX6_say_20 : decode cX6_say 20 = .ok (.aload_n 0, 1) := by decide +kernel
theorem dX6_say_21 : decode cX6_say 21 = .ok (.getfield 42, 3) := by decide +kernel
theorem dX6_say_24 : decode cX6_say 24 = .ok (.sipush 300, 3) := by decide +kernel
theorem dX6_say_27 : decode cX6_say 27 = .ok (.if_icmp .ge 20, 3) := by decide +kernel
theorem dX6_say_30 : decode cX6_say 30 = .ok (.aload_n 0, 1) := by decide +kernel
theorem dX6_say_31 : decode cX6_say 31 = .ok (.getfield 15, 3) := by decide +kernel
theorem dX6_say_34 : decode cX6_say 34 = .ok (.aload_n 0, 1) := by decide +kernel
theorem dX6_say_35 : decode cX6_say 35 = .ok (.getfield 42, 3) := by decide +kernel
theorem dX6_say_38 : decode cX6_say 38 = .ok (.aload_n 0, 1) := by decide +kernel
theorem dX6_say_39 : decode cX6_say 39 = .ok (.getfield 18, 3) := by decide +kernel
theorem dX6_say_42 : decode cX6_say 42 = .ok (.iload_n 1, 1) := by decide +kernel
theorem dX6_say_43 : decode cX6_say 43 = .ok (.invokevirtual 99, 3) := by decide +kernel
theorem dX6_say_46 : decode cX6_say 46 = .ok (.iastore, 1) := by decide +kernel
theorem dX6_say_47 : decode cX6_say 47 = .ok (.aload_n 0, 1) := by decide +kernel
theorem dX6_say_48 : decode cX6_say 48 = .ok (.dup, 1) := by decide +kernel
theorem dX6_say_49 : decode cX6_say 49 = .ok (.getfield 42, 3) := by decide +kernel
theorem dX6_say_52 : decode cX6_say 52 = .ok (.iconst 1, 1) := by decide +kernel
theorem dX6_say_53 : decode cX6_say 53 = .ok (.iadd, 1) := by decide +kernel
theorem dX6_say_54 : decode cX6_say 54 = .ok (.putfield 42, 3) := by decide +kernel
theorem dX6_say_57 : decode cX6_say 57 = .ok (.aload_n 0, 1) := by decide +kernel
theorem dX6_say_58 : decode cX6_say 58 = .ok (.aload_n 0, 1) := by decide +kernel
theorem dX6_say_59 : decode cX6_say 59 = .ok (.getfield 33, 3) := by decide +kernel
theorem dX6_say_62 : decode cX6_say 62 = .ok (.iconst 1, 1) := by decide +kernel
theorem dX6_say_63 : decode cX6_say 63 = .ok (.iadd, 1) := by decide +kernel
theorem dX6_say_64 : decode cX6_say 64 = .ok (.invokevirtual 48, 3) := by decide +kernel
theorem dX6_say_67 : decode cX6_say 67 = .ok (.ireturn, 1) := by decide +kernel
theorem dX6_openCall_0 : decode cX6_openCall 0 = .ok (.aload_n 0, 1) := by decide +kernel
theorem dX6_openCall_1 : decode cX6_openCall 1 = .ok (.getfield 39, 3) := by decide +kernel
theorem dX6_openCall_4 : decode cX6_openCall 4 = .ok (.bipush 30, 2) := by decide +kernel
theorem dX6_openCall_6 : decode cX6_openCall 6 = .ok (.if_icmp .lt 6, 3) := by decide +kernel
theorem dX6_openCall_9 : decode cX6_openCall 9 = .ok (.bipush 7, 2) := by decide +kernel
theorem dX6_openCall_11 : decode cX6_openCall 11 = .ok (.ireturn, 1) := by decide +kernel
theorem dX6_openCall_12 : decode cX6_openCall 12 = .ok (.aload_n 0, 1) := by decide +kernel
theorem dX6_openCall_13 : decode cX6_openCall 13 = .ok (.getfield 11, 3) := by decide +kernel
theorem dX6_openCall_16 : decode cX6_openCall 16 = .ok (.aload_n 0, 1) := by decide +kernel
theorem dX6_openCall_17 : decode cX6_openCall 17 = .ok (.getfield 39, 3) := by decide +kernel
theorem dX6_openCall_20 : decode cX6_openCall 20 = .ok (.aload_n 0, 1) := by decide +kernel
theorem dX6_openCall_21 : decode cX6_openCall 21 = .ok (.getfield 33, 3) := by decide +kernel
theorem dX6_openCall_24 : decode cX6_openCall 24 = .ok (.iconst 1, 1) := by decide +kernel
theorem dX6_openCall_25 : decode cX6_openCall 25 = .ok (.iadd, 1) := by decide +kernel
theorem dX6_openCall_26 : decode cX6_openCall 26 = .ok (.iastore, 1) := by decide +kernel
theorem dX6_openCall_27 : decode cX6_openCall 27 = .ok (.aload_n 0, 1) := by decide +kernel
theorem dX6_openCall_28 : decode cX6_openCall 28 = .ok (.dup, 1) := by decide +kernel
theorem dX6_openCall_29 : decode cX6_openCall 29 = .ok (.getfield 39, 3) := by decide +kernel
theorem dX6_openCall_32 : decode cX6_openCall 32 = .ok (.iconst 1, 1) := by decide +kernel
theorem dX6_openCall_33 : decode cX6_openCall 33 = .ok (.iadd, 1) := by decide +kernel
theorem dX6_openCall_34 : decode cX6_openCall 34 = .ok (.putfield 39, 3) := by decide +kernel
theorem dX6_openCall_37 : decode cX6_openCall 37 = .ok (.aload_n 0, 1) := by decide +kernel
theorem dX6_openCall_38 : decode cX6_openCall 38 = .ok (.iload_n 1, 1) := by decide +kernel
theorem dX6_openCall_39 : decode cX6_openCall 39 = .ok (.invokevirtual 48, 3) := by decide +kernel
theorem dX6_openCall_42 : decode cX6_openCall 42 = .ok (.ireturn, 1) := by decide +kernel
theorem dX6_goBack_0 : decode cX6_goBack 0 = .ok (.aload_n 0, 1) := by decide +kernel
theorem dX6_goBack_1 : decode cX6_goBack 1 = .ok (.getfield 39, 3) := by decide +kernel
theorem dX6_goBack_4 : decode cX6_goBack 4 = .ok (.ifCond .gt 15, 3) := by decide +kernel
theorem dX6_goBack_7 : decode cX6_goBack 7 = .ok (.aload_n 0, 1) := by decide +kernel
theorem dX6_goBack_8 : decode cX6_goBack 8 = .ok (.aload_n 0, 1) := by decide +kernel
theorem dX6_goBack_9 : decode cX6_goBack 9 = .ok (.getfield 22, 3) := by decide +kernel
theorem dX6_goBack_12 : decode cX6_goBack 12 = .ok (.getfield 108, 3) := by decide +kernel
theorem dX6_goBack_15 : decode cX6_goBack 15 = .ok (.invokevirtual 48, 3) := by decide +kernel
theorem dX6_goBack_18 : decode cX6_goBack 18 = .ok (.ireturn, 1) := by decide +kernel
theorem dX6_goBack_19 : decode cX6_goBack 19 = .ok (.aload_n 0, 1) := by decide +kernel
theorem dX6_goBack_20 : decode cX6_goBack 20 = .ok (.dup, 1) := by decide +kernel
theorem dX6_goBack_21 : decode cX6_goBack 21 = .ok (.getfield 39, 3) := by decide +kernel
theorem dX6_goBack_24 : decode cX6_goBack 24 = .ok (.iconst 1, 1) := by decide +kernel
theorem dX6_goBack_25 : decode cX6_goBack 25 = .ok (.isub, 1) := by decide +kernel
theorem dX6_goBack_26 : decode cX6_goBack 26 = .ok (.putfield 39, 3) := by decide +kernel
theorem dX6_goBack_29 : decode cX6_goBack 29 = .ok (.aload_n 0, 1) := by decide +kernel
theorem dX6_goBack_30 : decode cX6_goBack 30 = .ok (.aload_n 0, 1) := by decide +kernel
theorem dX6_goBack_31 : decode cX6_goBack 31 = .ok (.getfield 11, 3) := by decide +kernel
theorem dX6_goBack_34 : decode cX6_goBack 34 = .ok (.aload_n 0, 1) := by decide +kernel
theorem dX6_goBack_35 : decode cX6_goBack 35 = .ok (.getfield 39, 3) := by decide +kernel
theorem dX6_goBack_38 : decode cX6_goBack 38 = .ok (.iaload, 1) := by decide +kernel
theorem dX6_goBack_39 : decode cX6_goBack 39 = .ok (.invokevirtual 48, 3) := by decide +kernel
theorem dX6_goBack_42 : decode cX6_goBack 42 = .ok (.ireturn, 1) := by decide +kernel
theorem dX7_init_0 : decode cX7_init 0 = .ok (.aload_n 0, 1) := by decide +kernel
theorem dX7_init_1 : decode cX7_init 1 = .ok (.invokespecial 1, 3) := by decide +kernel
theorem dX7_init_4 : decode cX7_init 4 = .ok (.aload_n 0, 1) := by decide +kernel
theorem dX7_init_5 : decode cX7_init 5 = .ok (.sipush 600, 3) := by decide +kernel
theorem dX7_init_8 : decode cX7_init 8 = .ok (.newarray .byte, 2) := by decide +kernel
theorem dX7_init_10 : decode cX7_init 10 = .ok (.putfield 9, 3) := by decide +kernel
theorem dX7_init_13 : decode cX7_init 13 = .ok (.return_, 1) := by decide +kernel
theorem dX7_add_0 : decode cX7_add 0 = .ok (.aload_n 0, 1) := by decide +kernel
theorem dX7_add_1 : decode cX7_add 1 = .ok (.getfield 13, 3) := by decide +kernel
theorem dX7_add_4 : decode cX7_add 4 = .ok (.sipush 600, 3) := by decide +kernel
theorem dX7_add_7 : decode cX7_add 7 = .ok (.if_icmp .ge 24, 3) := by decide +kernel
theorem dX7_add_10 : decode cX7_add 10 = .ok (.aload_n 0, 1) := by decide +kernel
theorem dX7_add_11 : decode cX7_add 11 = .ok (.getfield 9, 3) := by decide +kernel
theorem dX7_add_14 : decode cX7_add 14 = .ok (.aload_n 0, 1) := by decide +kernel
theorem dX7_add_15 : decode cX7_add 15 = .ok (.getfield 13, 3) := by decide +kernel
theorem dX7_add_18 : decode cX7_add 18 = .ok (.iload_n 1, 1) := by decide +kernel
theorem dX7_add_19 : decode cX7_add 19 = .ok (.i2b, 1) := by decide +kernel
theorem dX7_add_20 : decode cX7_add 20 = .ok (.bastore, 1) := by decide +kernel
theorem dX7_add_21 : decode cX7_add 21 = .ok (.aload_n 0, 1) := by decide +kernel
theorem dX7_add_22 : decode cX7_add 22 = .ok (.dup, 1) := by decide +kernel
theorem dX7_add_23 : decode cX7_add 23 = .ok (.getfield 13, 3) := by decide +kernel
theorem dX7_add_26 : decode cX7_add 26 = .ok (.iconst 1, 1) := by decide +kernel
theorem dX7_add_27 : decode cX7_add 27 = .ok (.iadd, 1) := by decide +kernel
theorem dX7_add_28 : decode cX7_add 28 = .ok (.putfield 13, 3) := by decide +kernel
theorem dX7_add_31 : decode cX7_add 31 = .ok (.return_, 1) := by decide +kernel
theorem dX7_addNumber_0 : decode cX7_addNumber 0 = .ok (.iload_n 1, 1) := by decide +kernel
theorem dX7_addNumber_1 : decode cX7_addNumber 1 = .ok (.i2l, 1) := by decide +kernel
theorem dX7_addNumber_2 : decode cX7_addNumber 2 = .ok (.lstore_n 2, 1) := by decide +kernel
theorem dX7_addNumber_3 : decode cX7_addNumber 3 = .ok (.lload_n 2, 1) := by decide +kernel
theorem dX7_addNumber_4 : decode cX7_addNumber 4 = .ok (.lconst 0, 1) := by decide +kernel
theorem dX7_addNumber_5 : decode cX7_addNumber 5 = .ok (.lcmp, 1) := by decide +kernel
theorem dX7_addNumber_6 : decode cX7_addNumber 6 = .ok (.ifCond .ge 12, 3) := by decide +kernel
theorem dX7_addNumber_9 : decode cX7_addNumber 9 = .ok (.aload_n 0, 1) := by decide +kernel
theorem dX7_addNumber_10 : decode cX7_addNumber 10 = .ok (.bipush 45, 2) := by decide +kernel
theorem dX7_addNumber_12 : decode cX7_addNumber 12 = .ok (.invokevirtual 17, 3) := by decide +kernel
theorem dX7_addNumber_15 : decode cX7_addNumber 15 = .ok (.lload_n 2, 1) := by decide +kernel
theorem dX7_addNumber_16 : decode cX7_addNumber 16 = .ok (.lneg, 1) := by decide +kernel
theorem dX7_addNumber_17 : decode cX7_addNumber 17 = .ok (.lstore_n 2, 1) := by decide +kernel
theorem dX7_addNumber_18 : decode cX7_addNumber 18 = .ok (.ldc2_w 21, 3) := by decide +kernel
theorem dX7_addNumber_21 : decode cX7_addNumber 21 = .ok (.lstore 4, 2) := by decide +kernel
theorem dX7_addNumber_23 : decode cX7_addNumber 23 = .ok (.lload 4, 2) := by decide +kernel
theorem dX7_addNumber_25 : decode cX7_addNumber 25 = .ok (.lconst 0, 1) := by decide +kernel
theorem dX7_addNumber_26 : decode cX7_addNumber 26 = .ok (.lcmp, 1) := by decide +kernel
theorem dX7_addNumber_27 : decode cX7_addNumber 27 = .ok (.ifCond .le 45, 3) := by decide +kernel
theorem dX7_addNumber_30 : decode cX7_addNumber 30 = .ok (.lload_n 2, 1) := by decide +kernel
theorem dX7_addNumber_31 : decode cX7_addNumber 31 = .ok (.lload 4, 2) := by decide +kernel
theorem dX7_addNumber_33 : decode cX7_addNumber 33 = .ok (.lcmp, 1) := by decide +kernel
theorem dX7_addNumber_34 : decode cX7_addNumber 34 = .ok (.ifCond .ge 10, 3) := by decide +kernel
theorem dX7_addNumber_37 : decode cX7_addNumber 37 = .ok (.lload 4, 2) := by decide +kernel
theorem dX7_addNumber_39 : decode cX7_addNumber 39 = .ok (.lconst 1, 1) := by decide +kernel
theorem dX7_addNumber_40 : decode cX7_addNumber 40 = .ok (.lcmp, 1) := by decide +kernel
theorem dX7_addNumber_41 : decode cX7_addNumber 41 = .ok (.ifCond .ne 20, 3) := by decide +kernel
theorem dX7_addNumber_44 : decode cX7_addNumber 44 = .ok (.aload_n 0, 1) := by decide +kernel
theorem dX7_addNumber_45 : decode cX7_addNumber 45 = .ok (.ldc2_w 23, 3) := by decide +kernel
theorem dX7_addNumber_48 : decode cX7_addNumber 48 = .ok (.lload_n 2, 1) := by decide +kernel
theorem dX7_addNumber_49 : decode cX7_addNumber 49 = .ok (.lload 4, 2) := by decide +kernel
theorem dX7_addNumber_51 : decode cX7_addNumber 51 = .ok (.ldiv, 1) := by decide +kernel
theorem dX7_addNumber_52 : decode cX7_addNumber 52 = .ok (.ldc2_w 25, 3) := by decide +kernel
theorem dX7_addNumber_55 : decode cX7_addNumber 55 = .ok (.lrem, 1) := by decide +kernel
theorem dX7_addNumber_56 : decode cX7_addNumber 56 = .ok (.ladd, 1) := by decide +kernel
theorem dX7_addNumber_57 : decode cX7_addNumber 57 = .ok (.l2i, 1) := by decide +kernel
theorem dX7_addNumber_58 : decode cX7_addNumber 58 = .ok (.invokevirtual 17, 3) := by decide +kernel
theorem dX7_addNumber_61 : decode cX7_addNumber 61 = .ok (.lload 4, 2) := by decide +kernel
theorem dX7_addNumber_63 : decode cX7_addNumber 63 = .ok (.ldc2_w 25, 3) := by decide +kernel
theorem dX7_addNumber_66 : decode cX7_addNumber 66 = .ok (.ldiv, 1) := by decide +kernel
theorem dX7_addNumber_67 : decode cX7_addNumber 67 = .ok (.lstore 4, 2) := by decide +kernel
theorem dX7_addNumber_69 : decode cX7_addNumber 69 = .ok (.goto (-46), 3) := by decide +kernel
theorem dX7_addNumber_72 : decode cX7_addNumber 72 = .ok (.return_, 1) := by decide +kernel
theorem dX8_init_0 : decode cX8_init 0 = .ok (.aload_n 0, 1) := by decide +kernel
theorem dX8_init_1 : decode cX8_init 1 = .ok (.invokespecial 3, 3) := by decide +kernel
theorem dX8_init_4 : decode cX8_init 4 = .ok (.aload_n 0, 1) := by decide +kernel
theorem dX8_init_5 : decode cX8_init 5 = .ok (.sipush 2000, 3) := by decide +kernel
theorem dX8_init_8 : decode cX8_init 8 = .ok (.newarray .int, 2) := by decide +kernel
theorem dX8_init_10 : decode cX8_init 10 = .ok (.putfield 9, 3) := by decide +kernel
theorem dX8_init_13 : decode cX8_init 13 = .ok (.aload_n 0, 1) := by decide +kernel
theorem dX8_init_14 : decode cX8_init 14 = .ok (.sipush 2000, 3) := by decide +kernel
theorem dX8_init_17 : decode cX8_init 17 = .ok (.newarray .int, 2) := by decide +kernel
theorem dX8_init_19 : decode cX8_init 19 = .ok (.putfield 15, 3) := by decide +kernel
theorem dX8_init_22 : decode cX8_init 22 = .ok (.aload_n 0, 1) := by decide +kernel
theorem dX8_init_23 : decode cX8_init 23 = .ok (.sipush 2000, 3) := by decide +kernel
theorem dX8_init_26 : decode cX8_init 26 = .ok (.newarray .int, 2) := by decide +kernel
theorem dX8_init_28 : decode cX8_init 28 = .ok (.putfield 18, 3) := by decide +kernel
theorem dX8_init_31 : decode cX8_init 31 = .ok (.aload_n 0, 1) := by decide +kernel
theorem dX8_init_32 : decode cX8_init 32 = .ok (.sipush 2000, 3) := by decide +kernel
theorem dX8_init_35 : decode cX8_init 35 = .ok (.newarray .long, 2) := by decide +kernel
theorem dX8_init_37 : decode cX8_init 37 = .ok (.putfield 21, 3) := by decide +kernel
theorem dX8_init_40 : decode cX8_init 40 = .ok (.return_, 1) := by decide +kernel
theorem dX8_kindAt_0 : decode cX8_kindAt 0 = .ok (.iload_n 1, 1) := by decide +kernel
theorem dX8_kindAt_1 : decode cX8_kindAt 1 = .ok (.ifCond .lt 20, 3) := by decide +kernel
theorem dX8_kindAt_4 : decode cX8_kindAt 4 = .ok (.iload_n 1, 1) := by decide +kernel
theorem dX8_kindAt_5 : decode cX8_kindAt 5 = .ok (.aload_n 0, 1) := by decide +kernel
theorem dX8_kindAt_6 : decode cX8_kindAt 6 = .ok (.getfield 25, 3) := by decide +kernel
theorem dX8_kindAt_9 : decode cX8_kindAt 9 = .ok (.if_icmp .ge 12, 3) := by decide +kernel
theorem dX8_kindAt_12 : decode cX8_kindAt 12 = .ok (.aload_n 0, 1) := by decide +kernel
theorem dX8_kindAt_13 : decode cX8_kindAt 13 = .ok (.getfield 9, 3) := by decide +kernel
theorem dX8_kindAt_16 : decode cX8_kindAt 16 = .ok (.iload_n 1, 1) := by decide +kernel
theorem dX8_kindAt_17 : decode cX8_kindAt 17 = .ok (.iaload, 1) := by decide +kernel
theorem dX8_kindAt_18 : decode cX8_kindAt 18 = .ok (.goto 5, 3) := by decide +kernel
theorem dX8_kindAt_21 : decode cX8_kindAt 21 = .ok (.bipush 6, 2) := by decide +kernel
theorem dX8_kindAt_23 : decode cX8_kindAt 23 = .ok (.ireturn, 1) := by decide +kernel
theorem dX8_placeAt_0 : decode cX8_placeAt 0 = .ok (.iload_n 1, 1) := by decide +kernel
theorem dX8_placeAt_1 : decode cX8_placeAt 1 = .ok (.ifCond .lt 20, 3) := by decide +kernel
theorem dX8_placeAt_4 : decode cX8_placeAt 4 = .ok (.iload_n 1, 1) := by decide +kernel
theorem dX8_placeAt_5 : decode cX8_placeAt 5 = .ok (.aload_n 0, 1) := by decide +kernel
theorem dX8_placeAt_6 : decode cX8_placeAt 6 = .ok (.getfield 25, 3) := by decide +kernel
theorem dX8_placeAt_9 : decode cX8_placeAt 9 = .ok (.if_icmp .ge 12, 3) := by decide +kernel
theorem dX8_placeAt_12 : decode cX8_placeAt 12 = .ok (.aload_n 0, 1) := by decide +kernel
theorem dX8_placeAt_13 : decode cX8_placeAt 13 = .ok (.getfield 15, 3) := by decide +kernel
theorem dX8_placeAt_16 : decode cX8_placeAt 16 = .ok (.iload_n 1, 1) := by decide +kernel
theorem dX8_placeAt_17 : decode cX8_placeAt 17 = .ok (.iaload, 1) := by decide +kernel
theorem dX8_placeAt_18 : decode cX8_placeAt 18 = .ok (.goto 7, 3) := by decide +kernel
theorem dX8_placeAt_21 : decode cX8_placeAt 21 = .ok (.aload_n 0, 1) := by decide +kernel
theorem dX8_placeAt_22 : decode cX8_placeAt 22 = .ok (.getfield 29, 3) := by decide +kernel
theorem dX8_placeAt_25 : decode cX8_placeAt 25 = .ok (.ireturn, 1) := by decide +kernel
theorem dX8_valueAt_0 : decode cX8_valueAt 0 = .ok (.iload_n 1, 1) := by decide +kernel
theorem dX8_valueAt_1 : decode cX8_valueAt 1 = .ok (.ifCond .lt 20, 3) := by decide +kernel
theorem dX8_valueAt_4 : decode cX8_valueAt 4 = .ok (.iload_n 1, 1) := by decide +kernel
theorem dX8_valueAt_5 : decode cX8_valueAt 5 = .ok (.aload_n 0, 1) := by decide +kernel
theorem dX8_valueAt_6 : decode cX8_valueAt 6 = .ok (.getfield 25, 3) := by decide +kernel
theorem dX8_valueAt_9 : decode cX8_valueAt 9 = .ok (.if_icmp .ge 12, 3) := by decide +kernel
theorem dX8_valueAt_12 : decode cX8_valueAt 12 = .ok (.aload_n 0, 1) := by decide +kernel
theorem dX8_valueAt_13 : decode cX8_valueAt 13 = .ok (.getfield 18, 3) := by decide +kernel
theorem dX8_valueAt_16 : decode cX8_valueAt 16 = .ok (.iload_n 1, 1) := by decide +kernel
theorem dX8_valueAt_17 : decode cX8_valueAt 17 = .ok (.iaload, 1) := by decide +kernel
theorem dX8_valueAt_18 : decode cX8_valueAt 18 = .ok (.goto 4, 3) := by decide +kernel
theorem dX8_valueAt_21 : decode cX8_valueAt 21 = .ok (.iconst 0, 1) := by decide +kernel
theorem dX8_valueAt_22 : decode cX8_valueAt 22 = .ok (.ireturn, 1) := by decide +kernel
theorem dX8_nameAt_0 : decode cX8_nameAt 0 = .ok (.iload_n 1, 1) := by decide +kernel
theorem dX8_nameAt_1 : decode cX8_nameAt 1 = .ok (.ifCond .lt 20, 3) := by decide +kernel
theorem dX8_nameAt_4 : decode cX8_nameAt 4 = .ok (.iload_n 1, 1) := by decide +kernel
theorem dX8_nameAt_5 : decode cX8_nameAt 5 = .ok (.aload_n 0, 1) := by decide +kernel
theorem dX8_nameAt_6 : decode cX8_nameAt 6 = .ok (.getfield 25, 3) := by decide +kernel
theorem dX8_nameAt_9 : decode cX8_nameAt 9 = .ok (.if_icmp .ge 12, 3) := by decide +kernel
theorem dX8_nameAt_12 : decode cX8_nameAt 12 = .ok (.aload_n 0, 1) := by decide +kernel
theorem dX8_nameAt_13 : decode cX8_nameAt 13 = .ok (.getfield 21, 3) := by decide +kernel
theorem dX8_nameAt_16 : decode cX8_nameAt 16 = .ok (.iload_n 1, 1) := by decide +kernel
theorem dX8_nameAt_17 : decode cX8_nameAt 17 = .ok (.laload, 1) := by decide +kernel
theorem dX8_nameAt_18 : decode cX8_nameAt 18 = .ok (.goto 4, 3) := by decide +kernel
theorem dX8_nameAt_21 : decode cX8_nameAt 21 = .ok (.lconst 0, 1) := by decide +kernel
theorem dX8_nameAt_22 : decode cX8_nameAt 22 = .ok (.lreturn, 1) := by decide +kernel
theorem dX8_cut_0 : decode cX8_cut 0 = .ok (.aload_n 0, 1) := by decide +kernel
theorem dX8_cut_1 : decode cX8_cut 1 = .ok (.iconst 0, 1) := by decide +kernel
theorem dX8_cut_2 : decode cX8_cut 2 = .ok (.putfield 25, 3) := by decide +kernel
theorem dX8_cut_5 : decode cX8_cut 5 = .ok (.aload_n 0, 1) := by decide +kernel
theorem dX8_cut_6 : decode cX8_cut 6 = .ok (.iload_n 2, 1) := by decide +kernel
theorem dX8_cut_7 : decode cX8_cut 7 = .ok (.putfield 29, 3) := by decide +kernel
theorem dX8_cut_10 : decode cX8_cut 10 = .ok (.iconst 0, 1) := by decide +kernel
theorem dX8_cut_11 : decode cX8_cut 11 = .ok (.istore_n 3, 1) := by decide +kernel
theorem dX8_cut_12 : decode cX8_cut 12 = .ok (.iload_n 3, 1) := by decide +kernel
theorem dX8_cut_13 : decode cX8_cut 13 = .ok (.iload_n 2, 1) := by decide +kernel
theorem dX8_cut_14 : decode cX8_cut 14 = .ok (.if_icmp .ge 26, 3) := by decide +kernel
theorem dX8_cut_17 : decode cX8_cut 17 = .ok (.aload_n 0, 1) := by decide +kernel
theorem dX8_cut_18 : decode cX8_cut 18 = .ok (.aload_n 1, 1) := by decide +kernel
theorem dX8_cut_19 : decode cX8_cut 19 = .ok (.iload_n 3, 1) := by decide +kernel
theorem dX8_cut_20 : decode cX8_cut 20 = .ok (.iload_n 2, 1) := by decide +kernel
theorem dX8_cut_21 : decode cX8_cut 21 = .ok (.invokevirtual 32, 3) := by decide +kernel
theorem dX8_cut_24 : decode cX8_cut 24 = .ok (.istore 4, 2) := by decide +kernel
theorem dX8_cut_26 : decode cX8_cut 26 = .ok (.iload 4, 2) := by decide +kernel
theorem dX8_cut_28 : decode cX8_cut 28 = .ok (.iload_n 3, 1) := by decide +kernel
theorem dX8_cut_29 : decode cX8_cut 29 = .ok (.if_icmp .gt 5, 3) := by decide +kernel
theorem dX8_cut_32 : decode cX8_cut 32 = .ok (.iload_n 3, 1) := by decide +kernel
theorem dX8_cut_33 : decode cX8_cut 33 = .ok (.ireturn, 1) := by decide +kernel
theorem dX8_cut_34 : decode cX8_cut 34 = .ok (.iload 4, 2) := by decide +kernel
theorem dX8_cut_36 : decode cX8_cut 36 = .ok (.istore_n 3, 1) := by decide +kernel
theorem dX8_cut_37 : decode cX8_cut 37 = .ok (.goto (-25), 3) := by decide +kernel
theorem dX8_cut_40 : decode cX8_cut 40 = .ok (.iconst (-1), 1) := by decide +kernel
theorem dX8_cut_41 : decode cX8_cut 41 = .ok (.ireturn, 1) := by decide +kernel
theorem dX8_cutOne_0 : decode cX8_cutOne 0 = .ok (.aload_n 1, 1) := by decide +kernel
theorem dX8_cutOne_1 : decode cX8_cutOne 1 = .ok (.iload_n 2, 1) := by decide +kernel
theorem dX8_cutOne_2 : decode cX8_cutOne 2 = .ok (.baload, 1) := by decide +kernel
theorem dX8_cutOne_3 : decode cX8_cutOne 3 = .ok (.istore 4, 2) := by decide +kernel
theorem dX8_cutOne_5 : decode cX8_cutOne 5 = .ok (.iload 4, 2) := by decide +kernel
theorem dX8_cutOne_7 : decode cX8_cutOne 7 = .ok (.bipush 32, 2) := by decide +kernel
theorem dX8_cutOne_9 : decode cX8_cutOne 9 = .ok (.if_icmp .eq 10, 3) := by decide +kernel
theorem dX8_cutOne_12 : decode cX8_cutOne 12 = .ok (.iload 4, 2) := by decide +kernel
theorem dX8_cutOne_14 : decode cX8_cutOne 14 = .ok (.bipush 10, 2) := by decide +kernel
theorem dX8_cutOne_16 : decode cX8_cutOne 16 = .ok (.if_icmp .ne 7, 3) := by decide +kernel
theorem dX8_cutOne_19 : decode cX8_cutOne 19 = .ok (.iload_n 2, 1) := by decide +kernel
theorem dX8_cutOne_20 : decode cX8_cutOne 20 = .ok (.iconst 1, 1) := by decide +kernel
theorem dX8_cutOne_21 : decode cX8_cutOne 21 = .ok (.iadd, 1) := by decide +kernel
theorem dX8_cutOne_22 : decode cX8_cutOne 22 = .ok (.ireturn, 1) := by decide +kernel
theorem dX8_cutOne_23 : decode cX8_cutOne 23 = .ok (.iload 4, 2) := by decide +kernel
theorem dX8_cutOne_25 : decode cX8_cutOne 25 = .ok (.bipush 58, 2) := by decide +kernel
theorem dX8_cutOne_27 : decode cX8_cutOne 27 = .ok (.if_icmp .eq 10, 3) := by decide +kernel
theorem dX8_cutOne_30 : decode cX8_cutOne 30 = .ok (.iload 4, 2) := by decide +kernel
theorem dX8_cutOne_32 : decode cX8_cutOne 32 = .ok (.bipush 59, 2) := by decide +kernel
theorem dX8_cutOne_34 : decode cX8_cutOne 34 = .ok (.if_icmp .ne 26, 3) := by decide +kernel
theorem dX8_cutOne_37 : decode cX8_cutOne 37 = .ok (.aload_n 0, 1) := by decide +kernel
theorem dX8_cutOne_38 : decode cX8_cutOne 38 = .ok (.iload 4, 2) := by decide +kernel
theorem dX8_cutOne_40 : decode cX8_cutOne 40 = .ok (.bipush 58, 2) := by decide +kernel
theorem dX8_cutOne_42 : decode cX8_cutOne 42 = .ok (.if_icmp .ne 7, 3) := by decide +kernel
theorem dX8_cutOne_45 : decode cX8_cutOne 45 = .ok (.iconst 4, 1) := by decide +kernel
theorem dX8_cutOne_46 : decode cX8_cutOne 46 = .ok (.goto 4, 3) := by decide +kernel
theorem dX8_cutOne_49 : decode cX8_cutOne 49 = .ok (.iconst 5, 1) := by decide +kernel
theorem dX8_cutOne_50 : decode cX8_cutOne 50 = .ok (.iload_n 2, 1) := by decide +kernel
theorem dX8_cutOne_51 : decode cX8_cutOne 51 = .ok (.iconst 0, 1) := by decide +kernel
theorem dX8_cutOne_52 : decode cX8_cutOne 52 = .ok (.lconst 0, 1) := by decide +kernel
theorem dX8_cutOne_53 : decode cX8_cutOne 53 = .ok (.invokevirtual 36, 3) := by decide +kernel
theorem dX8_cutOne_56 : decode cX8_cutOne 56 = .ok (.iload_n 2, 1) := by decide +kernel
theorem dX8_cutOne_57 : decode cX8_cutOne 57 = .ok (.iconst 1, 1) := by decide +kernel
theorem dX8_cutOne_58 : decode cX8_cutOne 58 = .ok (.iadd, 1) := by decide +kernel
theorem dX8_cutOne_59 : decode cX8_cutOne 59 = .ok (.ireturn, 1) := by decide +kernel
theorem dX8_cutOne_60 : decode cX8_cutOne 60 = .ok (.iload 4, 2) := by decide +kernel
theorem dX8_cutOne_62 : decode cX8_cutOne 62 = .ok (.invokestatic 40, 3) := by decide +kernel
theorem dX8_cutOne_65 : decode cX8_cutOne 65 = .ok (.ifCond .eq 11, 3) := by decide +kernel
theorem dX8_cutOne_68 : decode cX8_cutOne 68 = .ok (.aload_n 0, 1) := by decide +kernel
theorem dX8_cutOne_69 : decode cX8_cutOne 69 = .ok (.aload_n 1, 1) := by decide +kernel
theorem dX8_cutOne_70 : decode cX8_cutOne 70 = .ok (.iload_n 2, 1) := by decide +kernel
theorem dX8_cutOne_71 : decode cX8_cutOne 71 = .ok (.iload_n 3, 1) := by decide +kernel
theorem dX8_cutOne_72 : decode cX8_cutOne 72 = .ok (.invokevirtual 44, 3) := by decide +kernel
theorem dX8_cutOne_75 : decode cX8_cutOne 75 = .ok (.ireturn, 1) := by decide +kernel
theorem dX8_cutOne_76 : decode cX8_cutOne 76 = .ok (.iload 4, 2) := by decide +kernel
theorem dX8_cutOne_78 : decode cX8_cutOne 78 = .ok (.bipush 45, 2) := by decide +kernel
theorem dX8_cutOne_80 : decode cX8_cutOne 80 = .ok (.if_icmp .eq 11, 3) := by decide +kernel
theorem dX8_cutOne_83 : decode cX8_cutOne 83 = .ok (.iload 4, 2) := by decide +kernel
theorem dX8_cutOne_85 : decode cX8_cutOne 85 = .ok (.invokestatic 47, 3) := by decide +kernel
theorem dX8_cutOne_88 : decode cX8_cutOne 88 = .ok (.ifCond .eq 13, 3) := by decide +kernel
theorem dX8_cutOne_91 : decode cX8_cutOne 91 = .ok (.aload_n 0, 1) := by decide +kernel
theorem dX8_cutOne_92 : decode cX8_cutOne 92 = .ok (.aload_n 1, 1) := by decide +kernel
theorem dX8_cutOne_93 : decode cX8_cutOne 93 = .ok (.iload_n 2, 1) := by decide +kernel
theorem dX8_cutOne_94 : decode cX8_cutOne 94 = .ok (.iload_n 3, 1) := by decide +kernel
theorem dX8_cutOne_95 : decode cX8_cutOne 95 = .ok (.invokevirtual 50, 3) := by decide +kernel
theorem dX8_cutOne_98 : decode cX8_cutOne 98 = .ok (.goto 4, 3) := by decide +kernel
theorem dX8_cutOne_101 : decode cX8_cutOne 101 = .ok (.iconst (-1), 1) := by decide +kernel
theorem dX8_cutOne_102 : decode cX8_cutOne 102 = .ok (.ireturn, 1) := by decide +kernel
theorem dX8_cutName_0 : decode cX8_cutName 0 = .ok (.iload_n 2, 1) := by decide +kernel
theorem dX8_cutName_1 : decode cX8_cutName 1 = .ok (.istore 4, 2) := by decide +kernel
theorem dX8_cutName_3 : decode cX8_cutName 3 = .ok (.lconst 0, 1) := by decide +kernel
theorem dX8_cutName_4 : decode cX8_cutName 4 = .ok (.lstore 5, 2) := by decide +kernel
theorem dX8_cutName_6 : decode cX8_cutName 6 = .ok (.iload 4, 2) := by decide +kernel
theorem dX8_cutName_8 : decode cX8_cutName 8 = .ok (.iload_n 3, 1) := by decide +kernel
theorem dX8_cutName_9 : decode cX8_cutName 9 = .ok (.if_icmp .ge 75, 3) := by decide +kernel
theorem dX8_cutName_12 : decode cX8_cutName 12 = .ok (.aload_n 1, 1) := by decide +kernel
theorem dX8_cutName_13 : decode cX8_cutName 13 = .ok (.iload 4, 2) := by decide +kernel
theorem dX8_cutName_15 : decode cX8_cutName 15 = .ok (.baload, 1) := by decide +kernel
theorem dX8_cutName_16 : decode cX8_cutName 16 = .ok (.invokestatic 40, 3) := by decide +kernel
theorem dX8_cutName_19 : decode cX8_cutName 19 = .ok (.ifCond .ne 13, 3) := by decide +kernel
theorem dX8_cutName_22 : decode cX8_cutName 22 = .ok (.aload_n 1, 1) := by decide +kernel
theorem dX8_cutName_23 : decode cX8_cutName 23 = .ok (.iload 4, 2) := by decide +kernel
theorem dX8_cutName_25 : decode cX8_cutName 25 = .ok (.baload, 1) := by decide +kernel
theorem dX8_cutName_26 : decode cX8_cutName 26 = .ok (.invokestatic 47, 3) := by decide +kernel
theorem dX8_cutName_29 : decode cX8_cutName 29 = .ok (.ifCond .eq 55, 3) := by decide +kernel
theorem dX8_cutName_32 : decode cX8_cutName 32 = .ok (.aload_n 1, 1) := by decide +kernel
theorem dX8_cutName_33 : decode cX8_cutName 33 = .ok (.iload 4, 2) := by decide +kernel
theorem dX8_cutName_35 : decode cX8_cutName 35 = .ok (.baload, 1) := by decide +kernel
theorem dX8_cutName_36 : decode cX8_cutName 36 = .ok (.invokestatic 47, 3) := by decide +kernel
theorem dX8_cutName_39 : decode cX8_cutName 39 = .ok (.ifCond .eq 13, 3) := by decide +kernel
theorem dX8_cutName_42 : decode cX8_cutName 42 = .ok (.aload_n 1, 1) := by decide +kernel
theorem dX8_cutName_43 : decode cX8_cutName 43 = .ok (.iload 4, 2) := by decide +kernel
theorem dX8_cutName_45 : decode cX8_cutName 45 = .ok (.baload, 1) := by decide +kernel
theorem dX8_cutName_46 : decode cX8_cutName 46 = .ok (.bipush 48, 2) := by decide +kernel
theorem dX8_cutName_48 : decode cX8_cutName 48 = .ok (.isub, 1) := by decide +kernel
theorem dX8_cutName_49 : decode cX8_cutName 49 = .ok (.goto 13, 3) := by decide +kernel
theorem dX8_cutName_52 : decode cX8_cutName 52 = .ok (.aload_n 1, 1) := by decide +kernel
theorem dX8_cutName_53 : decode cX8_cutName 53 = .ok (.iload 4, 2) := by decide +kernel
theorem dX8_cutName_55 : decode cX8_cutName 55 = .ok (.baload, 1) := by decide +kernel
theorem dX8_cutName_56 : decode cX8_cutName 56 = .ok (.bipush 97, 2) := by decide +kernel
theorem dX8_cutName_58 : decode cX8_cutName 58 = .ok (.isub, 1) := by decide +kernel
theorem dX8_cutName_59 : decode cX8_cutName 59 = .ok (.bipush 10, 2) := by decide +kernel
theorem dX8_cutName_61 : decode cX8_cutName 61 = .ok (.iadd, 1) := by decide +kernel
theorem dX8_cutName_62 : decode cX8_cutName 62 = .ok (.istore 7, 2) := by decide +kernel
theorem dX8_cutName_64 : decode cX8_cutName 64 = .ok (.lload 5, 2) := by decide +kernel
theorem dX8_cutName_66 : decode cX8_cutName 66 = .ok (.ldc2_w 53, 3) := by decide +kernel
theorem dX8_cutName_69 : decode cX8_cutName 69 = .ok (.lmul, 1) := by decide +kernel
theorem dX8_cutName_70 : decode cX8_cutName 70 = .ok (.iload 7, 2) := by decide +kernel
theorem dX8_cutName_72 : decode cX8_cutName 72 = .ok (.i2l, 1) := by decide +kernel
theorem dX8_cutName_73 : decode cX8_cutName 73 = .ok (.ladd, 1) := by decide +kernel
theorem dX8_cutName_74 : decode cX8_cutName 74 = .ok (.lconst 1, 1) := by decide +kernel
theorem dX8_cutName_75 : decode cX8_cutName 75 = .ok (.ladd, 1) := by decide +kernel
theorem dX8_cutName_76 : decode cX8_cutName 76 = .ok (.lstore 5, 2) := by decide +kernel
theorem dX8_cutName_78 : decode cX8_cutName 78 = .ok (.iinc 4 1, 3) := by decide +kernel
theorem dX8_cutName_81 : decode cX8_cutName 81 = .ok (.goto (-75), 3) := by decide +kernel
theorem dX8_cutName_84 : decode cX8_cutName 84 = .ok (.iload 4, 2) := by decide +kernel
theorem dX8_cutName_86 : decode cX8_cutName 86 = .ok (.iload_n 2, 1) := by decide +kernel
theorem dX8_cutName_87 : decode cX8_cutName 87 = .ok (.isub, 1) := by decide +kernel
theorem dX8_cutName_88 : decode cX8_cutName 88 = .ok (.bipush 8, 2) := by decide +kernel
theorem dX8_cutName_90 : decode cX8_cutName 90 = .ok (.if_icmp .le 5, 3) := by decide +kernel
theorem dX8_cutName_93 : decode cX8_cutName 93 = .ok (.iconst (-1), 1) := by decide +kernel
theorem dX8_cutName_94 : decode cX8_cutName 94 = .ok (.ireturn, 1) := by decide +kernel
theorem dX8_cutName_95 : decode cX8_cutName 95 = .ok (.aload_n 1, 1) := by decide +kernel
theorem dX8_cutName_96 : decode cX8_cutName 96 = .ok (.iload_n 2, 1) := by decide +kernel
theorem dX8_cutName_97 : decode cX8_cutName 97 = .ok (.iload 4, 2) := by decide +kernel
theorem dX8_cutName_99 : decode cX8_cutName 99 = .ok (.invokestatic 55, 3) := by decide +kernel
theorem dX8_cutName_102 : decode cX8_cutName 102 = .ok (.istore 7, 2) := by decide +kernel
theorem dX8_cutName_104 : decode cX8_cutName 104 = .ok (.iload 7, 2) := by decide +kernel
theorem dX8_cutName_106 : decode cX8_cutName 106 = .ok (.iconst (-1), 1) := by decide +kernel
theorem dX8_cutName_107 : decode cX8_cutName 107 = .ok (.if_icmp .eq 15, 3) := by decide +kernel
theorem dX8_cutName_110 : decode cX8_cutName 110 = .ok (.aload_n 0, 1) := by decide +kernel
theorem dX8_cutName_111 : decode cX8_cutName 111 = .ok (.iconst 2, 1) := by decide +kernel
theorem dX8_cutName_112 : decode cX8_cutName 112 = .ok (.iload_n 2, 1) := by decide +kernel
theorem dX8_cutName_113 : decode cX8_cutName 113 = .ok (.iload 7, 2) := by decide +kernel
theorem dX8_cutName_115 : decode cX8_cutName 115 = .ok (.lconst 0, 1) := by decide +kernel
theorem dX8_cutName_116 : decode cX8_cutName 116 = .ok (.invokevirtual 36, 3) := by decide +kernel
theorem dX8_cutName_119 : decode cX8_cutName 119 = .ok (.goto 48, 3) := by decide +kernel
theorem dX8_cutName_122 : decode cX8_cutName 122 = .ok (.iload 4, 2) := by decide +kernel
theorem dX8_cutName_124 : decode cX8_cutName 124 = .ok (.iload_n 2, 1) := by decide +kernel
theorem dX8_cutName_125 : decode cX8_cutName 125 = .ok (.isub, 1) := by decide +kernel
theorem dX8_cutName_126 : decode cX8_cutName 126 = .ok (.iconst 1, 1) := by decide +kernel
theorem dX8_cutName_127 : decode cX8_cutName 127 = .ok (.if_icmp .ne 31, 3) := by decide +kernel
theorem dX8_cutName_130 : decode cX8_cutName 130 = .ok (.aload_n 1, 1) := by decide +kernel
theorem dX8_cutName_131 : decode cX8_cutName 131 = .ok (.iload_n 2, 1) := by decide +kernel
theorem dX8_cutName_132 : decode cX8_cutName 132 = .ok (.baload, 1) := by decide +kernel
theorem dX8_cutName_133 : decode cX8_cutName 133 = .ok (.bipush 97, 2) := by decide +kernel
theorem dX8_cutName_135 : decode cX8_cutName 135 = .ok (.isub, 1) := by decide +kernel
theorem dX8_cutName_136 : decode cX8_cutName 136 = .ok (.invokestatic 58, 3) := by decide +kernel
theorem dX8_cutName_139 : decode cX8_cutName 139 = .ok (.ifCond .eq 19, 3) := by decide +kernel
theorem dX8_cutName_142 : decode cX8_cutName 142 = .ok (.aload_n 0, 1) := by decide +kernel
theorem dX8_cutName_143 : decode cX8_cutName 143 = .ok (.iconst 1, 1) := by decide +kernel
theorem dX8_cutName_144 : decode cX8_cutName 144 = .ok (.iload_n 2, 1) := by decide +kernel
theorem dX8_cutName_145 : decode cX8_cutName 145 = .ok (.aload_n 1, 1) := by decide +kernel
theorem dX8_cutName_146 : decode cX8_cutName 146 = .ok (.iload_n 2, 1) := by decide +kernel
theorem dX8_cutName_147 : decode cX8_cutName 147 = .ok (.baload, 1) := by decide +kernel
theorem dX8_cutName_148 : decode cX8_cutName 148 = .ok (.bipush 97, 2) := by decide +kernel
theorem dX8_cutName_150 : decode cX8_cutName 150 = .ok (.isub, 1) := by decide +kernel
theorem dX8_cutName_151 : decode cX8_cutName 151 = .ok (.lconst 0, 1) := by decide +kernel
theorem dX8_cutName_152 : decode cX8_cutName 152 = .ok (.invokevirtual 36, 3) := by decide +kernel
theorem dX8_cutName_155 : decode cX8_cutName 155 = .ok (.goto 12, 3) := by decide +kernel
theorem dX8_cutName_158 : decode cX8_cutName 158 = .ok (.aload_n 0, 1) := by decide +kernel
theorem dX8_cutName_159 : decode cX8_cutName 159 = .ok (.iconst 3, 1) := by decide +kernel
theorem dX8_cutName_160 : decode cX8_cutName 160 = .ok (.iload_n 2, 1) := by decide +kernel
theorem dX8_cutName_161 : decode cX8_cutName 161 = .ok (.iconst 0, 1) := by decide +kernel
theorem dX8_cutName_162 : decode cX8_cutName 162 = .ok (.lload 5, 2) := by decide +kernel
theorem dX8_cutName_164 : decode cX8_cutName 164 = .ok (.invokevirtual 36, 3) := by decide +kernel
theorem dX8_cutName_167 : decode cX8_cutName 167 = .ok (.iload 4, 2) := by decide +kernel
theorem dX8_cutName_169 : decode cX8_cutName 169 = .ok (.ireturn, 1) := by decide +kernel
theorem dX8_cutNumber_0 : decode cX8_cutNumber 0 = .ok (.aload_n 1, 1) := by decide +kernel
theorem dX8_cutNumber_1 : decode cX8_cutNumber 1 = .ok (.iload_n 2, 1) := by decide +kernel
theorem dX8_cutNumber_2 : decode cX8_cutNumber 2 = .ok (.baload, 1) := by decide +kernel
theorem dX8_cutNumber_3 : decode cX8_cutNumber 3 = .ok (.bipush 45, 2) := by decide +kernel
theorem dX8_cutNumber_5 : decode cX8_cutNumber 5 = .ok (.if_icmp .ne 7, 3) := by decide +kernel
theorem dX8_cutNumber_8 : decode cX8_cutNumber 8 = .ok (.iconst 1, 1) := by decide +kernel
theorem dX8_cutNumber_9 : decode cX8_cutNumber 9 = .ok (.goto 4, 3) := by decide +kernel
theorem dX8_cutNumber_12 : decode cX8_cutNumber 12 = .ok (.iconst 0, 1) := by decide +kernel
theorem dX8_cutNumber_13 : decode cX8_cutNumber 13 = .ok (.istore 4, 2) := by decide +kernel
theorem dX8_cutNumber_15 : decode cX8_cutNumber 15 = .ok (.iload 4, 2) := by decide +kernel
theorem dX8_cutNumber_17 : decode cX8_cutNumber 17 = .ok (.ifCond .eq 9, 3) := by decide +kernel
theorem dX8_cutNumber_20 : decode cX8_cutNumber 20 = .ok (.iload_n 2, 1) := by decide +kernel
theorem dX8_cutNumber_21 : decode cX8_cutNumber 21 = .ok (.iconst 1, 1) := by decide +kernel
theorem dX8_cutNumber_22 : decode cX8_cutNumber 22 = .ok (.iadd, 1) := by decide +kernel
theorem dX8_cutNumber_23 : decode cX8_cutNumber 23 = .ok (.goto 4, 3) := by decide +kernel
theorem dX8_cutNumber_26 : decode cX8_cutNumber 26 = .ok (.iload_n 2, 1) := by decide +kernel
theorem dX8_cutNumber_27 : decode cX8_cutNumber 27 = .ok (.istore 5, 2) := by decide +kernel
theorem dX8_cutNumber_29 : decode cX8_cutNumber 29 = .ok (.iload 5, 2) := by decide +kernel
theorem dX8_cutNumber_31 : decode cX8_cutNumber 31 = .ok (.istore 6, 2) := by decide +kernel
theorem dX8_cutNumber_33 : decode cX8_cutNumber 33 = .ok (.lconst 0, 1) := by decide +kernel
theorem dX8_cutNumber_34 : decode cX8_cutNumber 34 = .ok (.lstore 7, 2) := by decide +kernel
theorem dX8_cutNumber_36 : decode cX8_cutNumber 36 = .ok (.iload 6, 2) := by decide +kernel
theorem dX8_cutNumber_38 : decode cX8_cutNumber 38 = .ok (.iload_n 3, 1) := by decide +kernel
theorem dX8_cutNumber_39 : decode cX8_cutNumber 39 = .ok (.if_icmp .ge 52, 3) := by decide +kernel
theorem dX8_cutNumber_42 : decode cX8_cutNumber 42 = .ok (.aload_n 1, 1) := by decide +kernel
theorem dX8_cutNumber_43 : decode cX8_cutNumber 43 = .ok (.iload 6, 2) := by decide +kernel
theorem dX8_cutNumber_45 : decode cX8_cutNumber 45 = .ok (.baload, 1) := by decide +kernel
theorem dX8_cutNumber_46 : decode cX8_cutNumber 46 = .ok (.invokestatic 47, 3) := by decide +kernel
theorem dX8_cutNumber_49 : decode cX8_cutNumber 49 = .ok (.ifCond .eq 42, 3) := by decide +kernel
theorem dX8_cutNumber_52 : decode cX8_cutNumber 52 = .ok (.iload 6, 2) := by decide +kernel
theorem dX8_cutNumber_54 : decode cX8_cutNumber 54 = .ok (.iload 5, 2) := by decide +kernel
theorem dX8_cutNumber_56 : decode cX8_cutNumber 56 = .ok (.isub, 1) := by decide +kernel
theorem dX8_cutNumber_57 : decode cX8_cutNumber 57 = .ok (.bipush 10, 2) := by decide +kernel
theorem dX8_cutNumber_59 : decode cX8_cutNumber 59 = .ok (.if_icmp .ge 22, 3) := by decide +kernel
theorem dX8_cutNumber_62 : decode cX8_cutNumber 62 = .ok (.lload 7, 2) := by decide +kernel
theorem dX8_cutNumber_64 : decode cX8_cutNumber 64 = .ok (.ldc2_w 61, 3) := by decide +kernel
theorem dX8_cutNumber_67 : decode cX8_cutNumber 67 = .ok (.lmul, 1) := by decide +kernel
theorem dX8_cutNumber_68 : decode cX8_cutNumber 68 = .ok (.aload_n 1, 1) := by decide +kernel
theorem dX8_cutNumber_69 : decode cX8_cutNumber 69 = .ok (.iload 6, 2) := by decide +kernel
theorem dX8_cutNumber_71 : decode cX8_cutNumber 71 = .ok (.baload, 1) := by decide +kernel
theorem dX8_cutNumber_72 : decode cX8_cutNumber 72 = .ok (.i2l, 1) := by decide +kernel
theorem dX8_cutNumber_73 : decode cX8_cutNumber 73 = .ok (.ladd, 1) := by decide +kernel
theorem dX8_cutNumber_74 : decode cX8_cutNumber 74 = .ok (.ldc2_w 63, 3) := by decide +kernel
theorem dX8_cutNumber_77 : decode cX8_cutNumber 77 = .ok (.lsub, 1) := by decide +kernel
theorem dX8_cutNumber_78 : decode cX8_cutNumber 78 = .ok (.goto 5, 3) := by decide +kernel
theorem dX8_cutNumber_81 : decode cX8_cutNumber 81 = .ok (.lload 7, 2) := by decide +kernel
theorem dX8_cutNumber_83 : decode cX8_cutNumber 83 = .ok (.lstore 7, 2) := by decide +kernel
theorem dX8_cutNumber_85 : decode cX8_cutNumber 85 = .ok (.iinc 6 1, 3) := by decide +kernel
theorem dX8_cutNumber_88 : decode cX8_cutNumber 88 = .ok (.goto (-52), 3) := by decide +kernel
theorem dX8_cutNumber_91 : decode cX8_cutNumber 91 = .ok (.iload 4, 2) := by decide +kernel
theorem dX8_cutNumber_93 : decode cX8_cutNumber 93 = .ok (.ifCond .eq 9, 3) := by decide +kernel
theorem dX8_cutNumber_96 : decode cX8_cutNumber 96 = .ok (.lload 7, 2) := by decide +kernel
theorem dX8_cutNumber_98 : decode cX8_cutNumber 98 = .ok (.lneg, 1) := by decide +kernel
theorem dX8_cutNumber_99 : decode cX8_cutNumber 99 = .ok (.goto 5, 3) := by decide +kernel
theorem dX8_cutNumber_102 : decode cX8_cutNumber 102 = .ok (.lload 7, 2) := by decide +kernel
theorem dX8_cutNumber_104 : decode cX8_cutNumber 104 = .ok (.lstore 9, 2) := by decide +kernel
theorem dX8_cutNumber_106 : decode cX8_cutNumber 106 = .ok (.iload 6, 2) := by decide +kernel
theorem dX8_cutNumber_108 : decode cX8_cutNumber 108 = .ok (.iload 5, 2) := by decide +kernel
theorem dX8_cutNumber_110 : decode cX8_cutNumber 110 = .ok (.if_icmp .eq 23, 3) := by decide +kernel
theorem dX8_cutNumber_113 : decode cX8_cutNumber 113 = .ok (.iload 6, 2) := by decide +kernel
theorem dX8_cutNumber_115 : decode cX8_cutNumber 115 = .ok (.iload 5, 2) := by decide +kernel
theorem dX8_cutNumber_117 : decode cX8_cutNumber 117 = .ok (.isub, 1) := by decide +kernel
theorem dX8_cutNumber_118 : decode cX8_cutNumber 118 = .ok (.bipush 10, 2) := by decide +kernel
theorem dX8_cutNumber_120 : decode cX8_cutNumber 120 = .ok (.if_icmp .gt 13, 3) := by decide +kernel
theorem dX8_cutNumber_123 : decode cX8_cutNumber 123 = .ok (.lload 9, 2) := by decide +kernel
theorem dX8_cutNumber_125 : decode cX8_cutNumber 125 = .ok (.lload 9, 2) := by decide +kernel
theorem dX8_cutNumber_127 : decode cX8_cutNumber 127 = .ok (.l2i, 1) := by decide +kernel
theorem dX8_cutNumber_128 : decode cX8_cutNumber 128 = .ok (.i2l, 1) := by decide +kernel
theorem dX8_cutNumber_129 : decode cX8_cutNumber 129 = .ok (.lcmp, 1) := by decide +kernel
theorem dX8_cutNumber_130 : decode cX8_cutNumber 130 = .ok (.ifCond .eq 5, 3) := by decide +kernel
theorem dX8_cutNumber_133 : decode cX8_cutNumber 133 = .ok (.iconst (-1), 1) := by decide +kernel
theorem dX8_cutNumber_134 : decode cX8_cutNumber 134 = .ok (.ireturn, 1) := by decide +kernel
theorem dX8_cutNumber_135 : decode cX8_cutNumber 135 = .ok (.aload_n 0, 1) := by decide +kernel
theorem dX8_cutNumber_136 : decode cX8_cutNumber 136 = .ok (.iconst 0, 1) := by decide +kernel
theorem dX8_cutNumber_137 : decode cX8_cutNumber 137 = .ok (.iload_n 2, 1) := by decide +kernel
theorem dX8_cutNumber_138 : decode cX8_cutNumber 138 = .ok (.lload 9, 2) := by decide +kernel
theorem dX8_cutNumber_140 : decode cX8_cutNumber 140 = .ok (.l2i, 1) := by decide +kernel
theorem dX8_cutNumber_141 : decode cX8_cutNumber 141 = .ok (.lconst 0, 1) := by decide +kernel
theorem dX8_cutNumber_142 : decode cX8_cutNumber 142 = .ok (.invokevirtual 36, 3) := by decide +kernel
theorem dX8_cutNumber_145 : decode cX8_cutNumber 145 = .ok (.iload 6, 2) := by decide +kernel
theorem dX8_cutNumber_147 : decode cX8_cutNumber 147 = .ok (.ireturn, 1) := by decide +kernel
theorem dX8_add_0 : decode cX8_add 0 = .ok (.aload_n 0, 1) := by decide +kernel
theorem dX8_add_1 : decode cX8_add 1 = .ok (.getfield 25, 3) := by decide +kernel
theorem dX8_add_4 : decode cX8_add 4 = .ok (.sipush 2000, 3) := by decide +kernel
theorem dX8_add_7 : decode cX8_add 7 = .ok (.if_icmp .ge 54, 3) := by decide +kernel
theorem dX8_add_10 : decode cX8_add 10 = .ok (.aload_n 0, 1) := by decide +kernel
theorem dX8_add_11 : decode cX8_add 11 = .ok (.getfield 9, 3) := by decide +kernel
theorem dX8_add_14 : decode cX8_add 14 = .ok (.aload_n 0, 1) := by decide +kernel
theorem dX8_add_15 : decode cX8_add 15 = .ok (.getfield 25, 3) := by decide +kernel
theorem dX8_add_18 : decode cX8_add 18 = .ok (.iload_n 1, 1) := by decide +kernel
theorem dX8_add_19 : decode cX8_add 19 = .ok (.iastore, 1) := by decide +kernel
theorem dX8_add_20 : decode cX8_add 20 = .ok (.aload_n 0, 1) := by decide +kernel
theorem dX8_add_21 : decode cX8_add 21 = .ok (.getfield 15, 3) := by decide +kernel
theorem dX8_add_24 : decode cX8_add 24 = .ok (.aload_n 0, 1) := by decide +kernel
theorem dX8_add_25 : decode cX8_add 25 = .ok (.getfield 25, 3) := by decide +kernel
theorem dX8_add_28 : decode cX8_add 28 = .ok (.iload_n 2, 1) := by decide +kernel
theorem dX8_add_29 : decode cX8_add 29 = .ok (.iastore, 1) := by decide +kernel
theorem dX8_add_30 : decode cX8_add 30 = .ok (.aload_n 0, 1) := by decide +kernel
theorem dX8_add_31 : decode cX8_add 31 = .ok (.getfield 18, 3) := by decide +kernel
theorem dX8_add_34 : decode cX8_add 34 = .ok (.aload_n 0, 1) := by decide +kernel
theorem dX8_add_35 : decode cX8_add 35 = .ok (.getfield 25, 3) := by decide +kernel
theorem dX8_add_38 : decode cX8_add 38 = .ok (.iload_n 3, 1) := by decide +kernel
theorem dX8_add_39 : decode cX8_add 39 = .ok (.iastore, 1) := by decide +kernel
theorem dX8_add_40 : decode cX8_add 40 = .ok (.aload_n 0, 1) := by decide +kernel
theorem dX8_add_41 : decode cX8_add 41 = .ok (.getfield 21, 3) := by decide +kernel
theorem dX8_add_44 : decode cX8_add 44 = .ok (.aload_n 0, 1) := by decide +kernel
theorem dX8_add_45 : decode cX8_add 45 = .ok (.getfield 25, 3) := by decide +kernel
theorem dX8_add_48 : decode cX8_add 48 = .ok (.lload 4, 2) := by decide +kernel
theorem dX8_add_50 : decode cX8_add 50 = .ok (.lastore, 1) := by decide +kernel
theorem dX8_add_51 : decode cX8_add 51 = .ok (.aload_n 0, 1) := by decide +kernel
theorem dX8_add_52 : decode cX8_add 52 = .ok (.dup, 1) := by decide +kernel
theorem dX8_add_53 : decode cX8_add 53 = .ok (.getfield 25, 3) := by decide +kernel
theorem dX8_add_56 : decode cX8_add 56 = .ok (.iconst 1, 1) := by decide +kernel
theorem dX8_add_57 : decode cX8_add 57 = .ok (.iadd, 1) := by decide +kernel
theorem dX8_add_58 : decode cX8_add 58 = .ok (.putfield 25, 3) := by decide +kernel
theorem dX8_add_61 : decode cX8_add 61 = .ok (.return_, 1) := by decide +kernel
theorem dX8_actNamed_0 : decode cX8_actNamed 0 = .ok (.iconst 0, 1) := by decide +kernel
theorem dX8_actNamed_1 : decode cX8_actNamed 1 = .ok (.istore_n 3, 1) := by decide +kernel
theorem dX8_actNamed_2 : decode cX8_actNamed 2 = .ok (.iload_n 3, 1) := by decide +kernel
theorem dX8_actNamed_3 : decode cX8_actNamed 3 = .ok (.getstatic 65, 3) := by decide +kernel
theorem dX8_actNamed_6 : decode cX8_actNamed 6 = .ok (.arraylength, 1) := by decide +kernel
theorem dX8_actNamed_7 : decode cX8_actNamed 7 = .ok (.if_icmp .ge 28, 3) := by decide +kernel
theorem dX8_actNamed_10 : decode cX8_actNamed 10 = .ok (.aload_n 0, 1) := by decide +kernel
theorem dX8_actNamed_11 : decode cX8_actNamed 11 = .ok (.iload_n 1, 1) := by decide +kernel
theorem dX8_actNamed_12 : decode cX8_actNamed 12 = .ok (.iload_n 2, 1) := by decide +kernel
theorem dX8_actNamed_13 : decode cX8_actNamed 13 = .ok (.getstatic 65, 3) := by decide +kernel
theorem dX8_actNamed_16 : decode cX8_actNamed 16 = .ok (.iload_n 3, 1) := by decide +kernel
theorem dX8_actNamed_17 : decode cX8_actNamed 17 = .ok (.aaload, 1) := by decide +kernel
theorem dX8_actNamed_18 : decode cX8_actNamed 18 = .ok (.getfield 69, 3) := by decide +kernel
theorem dX8_actNamed_21 : decode cX8_actNamed 21 = .ok (.invokestatic 75, 3) := by decide +kernel
theorem dX8_actNamed_24 : decode cX8_actNamed 24 = .ok (.ifCond .eq 5, 3) := by decide +kernel
theorem dX8_actNamed_27 : decode cX8_actNamed 27 = .ok (.iload_n 3, 1) := by decide +kernel
theorem dX8_actNamed_28 : decode cX8_actNamed 28 = .ok (.ireturn, 1) := by decide +kernel
theorem dX8_actNamed_29 : decode cX8_actNamed 29 = .ok (.iinc 3 1, 3) := by decide +kernel
theorem dX8_actNamed_32 : decode cX8_actNamed 32 = .ok (.goto (-30), 3) := by decide +kernel
theorem dX8_actNamed_35 : decode cX8_actNamed 35 = .ok (.iconst (-1), 1) := by decide +kernel
theorem dX8_actNamed_36 : decode cX8_actNamed 36 = .ok (.ireturn, 1) := by decide +kernel
theorem dX8_reads_0 : decode cX8_reads 0 = .ok (.iload_n 2, 1) := by decide +kernel
theorem dX8_reads_1 : decode cX8_reads 1 = .ok (.iload_n 1, 1) := by decide +kernel
theorem dX8_reads_2 : decode cX8_reads 2 = .ok (.isub, 1) := by decide +kernel
theorem dX8_reads_3 : decode cX8_reads 3 = .ok (.aload_n 3, 1) := by decide +kernel
theorem dX8_reads_4 : decode cX8_reads 4 = .ok (.invokevirtual 79, 3) := by decide +kernel
theorem dX8_reads_7 : decode cX8_reads 7 = .ok (.if_icmp .eq 5, 3) := by decide +kernel
theorem dX8_reads_10 : decode cX8_reads 10 = .ok (.iconst 0, 1) := by decide +kernel
theorem dX8_reads_11 : decode cX8_reads 11 = .ok (.ireturn, 1) := by decide +kernel
theorem dX8_reads_12 : decode cX8_reads 12 = .ok (.iload_n 1, 1) := by decide +kernel
theorem dX8_reads_13 : decode cX8_reads 13 = .ok (.istore 4, 2) := by decide +kernel
theorem dX8_reads_15 : decode cX8_reads 15 = .ok (.iload 4, 2) := by decide +kernel
theorem dX8_reads_17 : decode cX8_reads 17 = .ok (.iload_n 2, 1) := by decide +kernel
theorem dX8_reads_18 : decode cX8_reads 18 = .ok (.if_icmp .ge 26, 3) := by decide +kernel
theorem dX8_reads_21 : decode cX8_reads 21 = .ok (.aload_n 0, 1) := by decide +kernel
theorem dX8_reads_22 : decode cX8_reads 22 = .ok (.iload 4, 2) := by decide +kernel
theorem dX8_reads_24 : decode cX8_reads 24 = .ok (.baload, 1) := by decide +kernel
theorem dX8_reads_25 : decode cX8_reads 25 = .ok (.aload_n 3, 1) := by decide +kernel
theorem dX8_reads_26 : decode cX8_reads 26 = .ok (.iload 4, 2) := by decide +kernel
theorem dX8_reads_28 : decode cX8_reads 28 = .ok (.iload_n 1, 1) := by decide +kernel
theorem dX8_reads_29 : decode cX8_reads 29 = .ok (.isub, 1) := by decide +kernel
theorem dX8_reads_30 : decode cX8_reads 30 = .ok (.invokevirtual 85, 3) := by decide +kernel
theorem dX8_reads_33 : decode cX8_reads 33 = .ok (.if_icmp .eq 5, 3) := by decide +kernel
theorem dX8_reads_36 : decode cX8_reads 36 = .ok (.iconst 0, 1) := by decide +kernel
theorem dX8_reads_37 : decode cX8_reads 37 = .ok (.ireturn, 1) := by decide +kernel
theorem dX8_reads_38 : decode cX8_reads 38 = .ok (.iinc 4 1, 3) := by decide +kernel
theorem dX8_reads_41 : decode cX8_reads 41 = .ok (.goto (-26), 3) := by decide +kernel
theorem dX8_reads_44 : decode cX8_reads 44 = .ok (.iconst 1, 1) := by decide +kernel
theorem dX8_reads_45 : decode cX8_reads 45 = .ok (.ireturn, 1) := by decide +kernel
theorem dX8_isLetter_0 : decode cX8_isLetter 0 = .ok (.iload_n 0, 1) := by decide +kernel
theorem dX8_isLetter_1 : decode cX8_isLetter 1 = .ok (.bipush 97, 2) := by decide +kernel
theorem dX8_isLetter_3 : decode cX8_isLetter 3 = .ok (.if_icmp .lt 13, 3) := by decide +kernel
theorem dX8_isLetter_6 : decode cX8_isLetter 6 = .ok (.iload_n 0, 1) := by decide +kernel
theorem dX8_isLetter_7 : decode cX8_isLetter 7 = .ok (.bipush 122, 2) := by decide +kernel
theorem dX8_isLetter_9 : decode cX8_isLetter 9 = .ok (.if_icmp .gt 7, 3) := by decide +kernel
theorem dX8_isLetter_12 : decode cX8_isLetter 12 = .ok (.iconst 1, 1) := by decide +kernel
theorem dX8_isLetter_13 : decode cX8_isLetter 13 = .ok (.goto 4, 3) := by decide +kernel
theorem dX8_isLetter_16 : decode cX8_isLetter 16 = .ok (.iconst 0, 1) := by decide +kernel
theorem dX8_isLetter_17 : decode cX8_isLetter 17 = .ok (.ireturn, 1) := by decide +kernel
theorem dX8_isDigit_0 : decode cX8_isDigit 0 = .ok (.iload_n 0, 1) := by decide +kernel
theorem dX8_isDigit_1 : decode cX8_isDigit 1 = .ok (.bipush 48, 2) := by decide +kernel
theorem dX8_isDigit_3 : decode cX8_isDigit 3 = .ok (.if_icmp .lt 13, 3) := by decide +kernel
theorem dX8_isDigit_6 : decode cX8_isDigit 6 = .ok (.iload_n 0, 1) := by decide +kernel
theorem dX8_isDigit_7 : decode cX8_isDigit 7 = .ok (.bipush 57, 2) := by decide +kernel
theorem dX8_isDigit_9 : decode cX8_isDigit 9 = .ok (.if_icmp .gt 7, 3) := by decide +kernel
theorem dX8_isDigit_12 : decode cX8_isDigit 12 = .ok (.iconst 1, 1) := by decide +kernel
theorem dX8_isDigit_13 : decode cX8_isDigit 13 = .ok (.goto 4, 3) := by decide +kernel
theorem dX8_isDigit_16 : decode cX8_isDigit 16 = .ok (.iconst 0, 1) := by decide +kernel
theorem dX8_isDigit_17 : decode cX8_isDigit 17 = .ok (.ireturn, 1) := by decide +kernel
theorem dX9_init_0 : decode cX9_init 0 = .ok (.aload_n 0, 1) := by decide +kernel
theorem dX9_init_1 : decode cX9_init 1 = .ok (.invokespecial 1, 3) := by decide +kernel
theorem dX9_init_4 : decode cX9_init 4 = .ok (.aload_n 0, 1) := by decide +kernel
theorem dX9_init_5 : decode cX9_init 5 = .ok (.aload_n 1, 1) := by decide +kernel
theorem dX9_init_6 : decode cX9_init 6 = .ok (.putfield 7, 3) := by decide +kernel
theorem dX9_init_9 : decode cX9_init 9 = .ok (.aload_n 0, 1) := by decide +kernel
theorem dX9_init_10 : decode cX9_init 10 = .ok (.iconst 2, 1) := by decide +kernel
theorem dX9_init_11 : decode cX9_init 11 = .ok (.aload_n 1, 1) := by decide +kernel
theorem dX9_init_12 : decode cX9_init 12 = .ok (.getfield 13, 3) := by decide +kernel
theorem dX9_init_15 : decode cX9_init 15 = .ok (.imul, 1) := by decide +kernel
theorem dX9_init_16 : decode cX9_init 16 = .ok (.newarray .int, 2) := by decide +kernel
theorem dX9_init_18 : decode cX9_init 18 = .ok (.putfield 19, 3) := by decide +kernel
theorem dX9_init_21 : decode cX9_init 21 = .ok (.aload_n 0, 1) := by decide +kernel
theorem dX9_init_22 : decode cX9_init 22 = .ok (.iconst 2, 1) := by decide +kernel
theorem dX9_init_23 : decode cX9_init 23 = .ok (.aload_n 1, 1) := by decide +kernel
theorem dX9_init_24 : decode cX9_init 24 = .ok (.getfield 13, 3) := by decide +kernel
theorem dX9_init_27 : decode cX9_init 27 = .ok (.imul, 1) := by decide +kernel
theorem dX9_init_28 : decode cX9_init 28 = .ok (.newarray .int, 2) := by decide +kernel
theorem dX9_init_30 : decode cX9_init 30 = .ok (.putfield 23, 3) := by decide +kernel
theorem dX9_init_33 : decode cX9_init 33 = .ok (.return_, 1) := by decide +kernel
theorem dX9_findFromRoots_0 : decode cX9_findFromRoots 0 = .ok (.aload_n 0, 1) := by decide +kernel
theorem dX9_findFromRoots_1 : decode cX9_findFromRoots 1 = .ok (.invokevirtual 26, 3) := by decide +kernel
theorem dX9_findFromRoots_4 : decode cX9_findFromRoots 4 = .ok (.iconst 0, 1) := by decide +kernel
theorem dX9_findFromRoots_5 : decode cX9_findFromRoots 5 = .ok (.istore_n 1, 1) := by decide +kernel
theorem dX9_findFromRoots_6 : decode cX9_findFromRoots 6 = .ok (.iload_n 1, 1) := by decide +kernel
theorem dX9_findFromRoots_7 : decode cX9_findFromRoots 7 = .ok (.aload_n 0, 1) := by decide +kernel
theorem dX9_findFromRoots_8 : decode cX9_findFromRoots 8 = .ok (.getfield 7, 3) := by decide +kernel
theorem dX9_findFromRoots_11 : decode cX9_findFromRoots 11 = .ok (.invokevirtual 29, 3) := by decide +kernel
theorem dX9_findFromRoots_14 : decode cX9_findFromRoots 14 = .ok (.if_icmp .ge 32, 3) := by decide +kernel
theorem dX9_findFromRoots_17 : decode cX9_findFromRoots 17 = .ok (.aload_n 0, 1) := by decide +kernel
theorem dX9_findFromRoots_18 : decode cX9_findFromRoots 18 = .ok (.aload_n 0, 1) := by decide +kernel
theorem dX9_findFromRoots_19 : decode cX9_findFromRoots 19 = .ok (.getfield 7, 3) := by decide +kernel
theorem dX9_findFromRoots_22 : decode cX9_findFromRoots 22 = .ok (.getfield 33, 3) := by decide +kernel
theorem dX9_findFromRoots_25 : decode cX9_findFromRoots 25 = .ok (.iload_n 1, 1) := by decide +kernel
theorem dX9_findFromRoots_26 : decode cX9_findFromRoots 26 = .ok (.iaload, 1) := by decide +kernel
theorem dX9_findFromRoots_27 : decode cX9_findFromRoots 27 = .ok (.aload_n 0, 1) := by decide +kernel
theorem dX9_findFromRoots_28 : decode cX9_findFromRoots 28 = .ok (.getfield 7, 3) := by decide +kernel
theorem dX9_findFromRoots_31 : decode cX9_findFromRoots 31 = .ok (.getfield 36, 3) := by decide +kernel
theorem dX9_findFromRoots_34 : decode cX9_findFromRoots 34 = .ok (.iload_n 1, 1) := by decide +kernel
theorem dX9_findFromRoots_35 : decode cX9_findFromRoots 35 = .ok (.iaload, 1) := by decide +kernel
theorem dX9_findFromRoots_36 : decode cX9_findFromRoots 36 = .ok (.invokevirtual 39, 3) := by decide +kernel
theorem dX9_findFromRoots_39 : decode cX9_findFromRoots 39 = .ok (.pop, 1) := by decide +kernel
theorem dX9_findFromRoots_40 : decode cX9_findFromRoots 40 = .ok (.iinc 1 1, 3) := by decide +kernel
theorem dX9_findFromRoots_43 : decode cX9_findFromRoots 43 = .ok (.goto (-37), 3) := by decide +kernel
theorem dX9_findFromRoots_46 : decode cX9_findFromRoots 46 = .ok (.iconst 0, 1) := by decide +kernel
theorem dX9_findFromRoots_47 : decode cX9_findFromRoots 47 = .ok (.istore_n 1, 1) := by decide +kernel
theorem dX9_findFromRoots_48 : decode cX9_findFromRoots 48 = .ok (.iload_n 1, 1) := by decide +kernel
theorem dX9_findFromRoots_49 : decode cX9_findFromRoots 49 = .ok (.aload_n 0, 1) := by decide +kernel
theorem dX9_findFromRoots_50 : decode cX9_findFromRoots 50 = .ok (.getfield 43, 3) := by decide +kernel
theorem dX9_findFromRoots_53 : decode cX9_findFromRoots 53 = .ok (.if_icmp .ge 83, 3) := by decide +kernel
theorem dX9_findFromRoots_56 : decode cX9_findFromRoots 56 = .ok (.iload_n 1, 1) := by decide +kernel
theorem dX9_findFromRoots_57 : decode cX9_findFromRoots 57 = .ok (.aload_n 0, 1) := by decide +kernel
theorem dX9_findFromRoots_58 : decode cX9_findFromRoots 58 = .ok (.getfield 19, 3) := by decide +kernel
theorem dX9_findFromRoots_61 : decode cX9_findFromRoots 61 = .ok (.arraylength, 1) := by decide +kernel
theorem dX9_findFromRoots_62 : decode cX9_findFromRoots 62 = .ok (.if_icmp .ge 74, 3) := by decide +kernel
theorem dX9_findFromRoots_65 : decode cX9_findFromRoots 65 = .ok (.aload_n 0, 1) := by decide +kernel
theorem dX9_findFromRoots_66 : decode cX9_findFromRoots 66 = .ok (.getfield 19, 3) := by decide +kernel
theorem dX9_findFromRoots_69 : decode cX9_findFromRoots 69 = .ok (.iload_n 1, 1) := by decide +kernel
theorem dX9_findFromRoots_70 : decode cX9_findFromRoots 70 = .ok (.iaload, 1) := by decide +kernel
theorem dX9_findFromRoots_71 : decode cX9_findFromRoots 71 = .ok (.iconst 2, 1) := by decide +kernel
theorem dX9_findFromRoots_72 : decode cX9_findFromRoots 72 = .ok (.iadd, 1) := by decide +kernel
theorem dX9_findFromRoots_73 : decode cX9_findFromRoots 73 = .ok (.istore_n 2, 1) := by decide +kernel
theorem dX9_findFromRoots_74 : decode cX9_findFromRoots 74 = .ok (.aload_n 0, 1) := by decide +kernel
theorem dX9_findFromRoots_75 : decode cX9_findFromRoots 75 = .ok (.getfield 7, 3) := by decide +kernel
theorem dX9_findFromRoots_78 : decode cX9_findFromRoots 78 = .ok (.aload_n 0, 1) := by decide +kernel
theorem dX9_findFromRoots_79 : decode cX9_findFromRoots 79 = .ok (.getfield 19, 3) := by decide +kernel
theorem dX9_findFromRoots_82 : decode cX9_findFromRoots 82 = .ok (.iload_n 1, 1) := by decide +kernel
theorem dX9_findFromRoots_83 : decode cX9_findFromRoots 83 = .ok (.iaload, 1) := by decide +kernel
theorem dX9_findFromRoots_84 : decode cX9_findFromRoots 84 = .ok (.invokevirtual 46, 3) := by decide +kernel
theorem dX9_findFromRoots_87 : decode cX9_findFromRoots 87 = .ok (.istore_n 3, 1) := by decide +kernel
theorem dX9_findFromRoots_88 : decode cX9_findFromRoots 88 = .ok (.iload_n 2, 1) := by decide +kernel
theorem dX9_findFromRoots_89 : decode cX9_findFromRoots 89 = .ok (.istore 4, 2) := by decide +kernel
theorem dX9_findFromRoots_91 : decode cX9_findFromRoots 91 = .ok (.iload 4, 2) := by decide +kernel
theorem dX9_findFromRoots_93 : decode cX9_findFromRoots 93 = .ok (.iload_n 2, 1) := by decide +kernel
theorem dX9_findFromRoots_94 : decode cX9_findFromRoots 94 = .ok (.iload_n 3, 1) := by decide +kernel
theorem dX9_findFromRoots_95 : decode cX9_findFromRoots 95 = .ok (.iadd, 1) := by decide +kernel
theorem dX9_findFromRoots_96 : decode cX9_findFromRoots 96 = .ok (.if_icmp .ge 34, 3) := by decide +kernel
theorem dX9_findFromRoots_99 : decode cX9_findFromRoots 99 = .ok (.aload_n 0, 1) := by decide +kernel
theorem dX9_findFromRoots_100 : decode cX9_findFromRoots 100 = .ok (.aload_n 0, 1) := by decide +kernel
theorem dX9_findFromRoots_101 : decode cX9_findFromRoots 101 = .ok (.getfield 7, 3) := by decide +kernel
theorem dX9_findFromRoots_104 : decode cX9_findFromRoots 104 = .ok (.getfield 50, 3) := by decide +kernel
theorem dX9_findFromRoots_107 : decode cX9_findFromRoots 107 = .ok (.iload 4, 2) := by decide +kernel
theorem dX9_findFromRoots_109 : decode cX9_findFromRoots 109 = .ok (.iaload, 1) := by decide +kernel
theorem dX9_findFromRoots_110 : decode cX9_findFromRoots 110 = .ok (.aload_n 0, 1) := by decide +kernel
theorem dX9_findFromRoots_111 : decode cX9_findFromRoots 111 = .ok (.getfield 7, 3) := by decide +kernel
theorem dX9_findFromRoots_114 : decode cX9_findFromRoots 114 = .ok (.getfield 53, 3) := by decide +kernel
theorem dX9_findFromRoots_117 : decode cX9_findFromRoots 117 = .ok (.iload 4, 2) := by decide +kernel
theorem dX9_findFromRoots_119 : decode cX9_findFromRoots 119 = .ok (.iaload, 1) := by decide +kernel
theorem dX9_findFromRoots_120 : decode cX9_findFromRoots 120 = .ok (.invokevirtual 39, 3) := by decide +kernel
theorem dX9_findFromRoots_123 : decode cX9_findFromRoots 123 = .ok (.pop, 1) := by decide +kernel
theorem dX9_findFromRoots_124 : decode cX9_findFromRoots 124 = .ok (.iinc 4 1, 3) := by decide +kernel
theorem dX9_findFromRoots_127 : decode cX9_findFromRoots 127 = .ok (.goto (-36), 3) := by decide +kernel
theorem dX9_findFromRoots_130 : decode cX9_findFromRoots 130 = .ok (.iinc 1 1, 3) := by decide +kernel
theorem dX9_findFromRoots_133 : decode cX9_findFromRoots 133 = .ok (.goto (-85), 3) := by decide +kernel
theorem dX9_findFromRoots_136 : decode cX9_findFromRoots 136 = .ok (.return_, 1) := by decide +kernel
theorem dX9_words_0 : decode cX9_words 0 = .ok (.iconst 0, 1) := by decide +kernel
theorem dX9_words_1 : decode cX9_words 1 = .ok (.istore_n 1, 1) := by decide +kernel
theorem dX9_words_2 : decode cX9_words 2 = .ok (.iconst 0, 1) := by decide +kernel
theorem dX9_words_3 : decode cX9_words 3 = .ok (.istore_n 2, 1) := by decide +kernel
theorem dX9_words_4 : decode cX9_words 4 = .ok (.iload_n 2, 1) := by decide +kernel
theorem dX9_words_5 : decode cX9_words 5 = .ok (.aload_n 0, 1) := by decide +kernel
theorem dX9_words_6 : decode cX9_words 6 = .ok (.getfield 43, 3) := by decide +kernel
theorem dX9_words_9 : decode cX9_words 9 = .ok (.if_icmp .ge 27, 3) := by decide +kernel
theorem dX9_words_12 : decode cX9_words 12 = .ok (.iload_n 1, 1) := by decide +kernel
theorem dX9_words_13 : decode cX9_words 13 = .ok (.aload_n 0, 1) := by decide +kernel
theorem dX9_words_14 : decode cX9_words 14 = .ok (.getfield 7, 3) := by decide +kernel
theorem dX9_words_17 : decode cX9_words 17 = .ok (.aload_n 0, 1) := by decide +kernel
theorem dX9_words_18 : decode cX9_words 18 = .ok (.getfield 19, 3) := by decide +kernel
theorem dX9_words_21 : decode cX9_words 21 = .ok (.iload_n 2, 1) := by decide +kernel
theorem dX9_words_22 : decode cX9_words 22 = .ok (.iaload, 1) := by decide +kernel
theorem dX9_words_23 : decode cX9_words 23 = .ok (.invokevirtual 46, 3) := by decide +kernel
theorem dX9_words_26 : decode cX9_words 26 = .ok (.iconst 2, 1) := by decide +kernel
theorem dX9_words_27 : decode cX9_words 27 = .ok (.iadd, 1) := by decide +kernel
theorem dX9_words_28 : decode cX9_words 28 = .ok (.iadd, 1) := by decide +kernel
theorem dX9_words_29 : decode cX9_words 29 = .ok (.istore_n 1, 1) := by decide +kernel
theorem dX9_words_30 : decode cX9_words 30 = .ok (.iinc 2 1, 3) := by decide +kernel
theorem dX9_words_33 : decode cX9_words 33 = .ok (.goto (-29), 3) := by decide +kernel
theorem dX9_words_36 : decode cX9_words 36 = .ok (.iload_n 1, 1) := by decide +kernel
theorem dX9_words_37 : decode cX9_words 37 = .ok (.ireturn, 1) := by decide +kernel
theorem dX9_write_0 : decode cX9_write 0 = .ok (.aload_n 0, 1) := by decide +kernel
theorem dX9_write_1 : decode cX9_write 1 = .ok (.invokevirtual 26, 3) := by decide +kernel
theorem dX9_write_4 : decode cX9_write 4 = .ok (.aload_n 0, 1) := by decide +kernel
theorem dX9_write_5 : decode cX9_write 5 = .ok (.aload_n 0, 1) := by decide +kernel
theorem dX9_write_6 : decode cX9_write 6 = .ok (.getfield 7, 3) := by decide +kernel
theorem dX9_write_9 : decode cX9_write 9 = .ok (.getfield 33, 3) := by decide +kernel
theorem dX9_write_12 : decode cX9_write 12 = .ok (.iload_n 1, 1) := by decide +kernel
theorem dX9_write_13 : decode cX9_write 13 = .ok (.iaload, 1) := by decide +kernel
theorem dX9_write_14 : decode cX9_write 14 = .ok (.aload_n 0, 1) := by decide +kernel
theorem dX9_write_15 : decode cX9_write 15 = .ok (.getfield 7, 3) := by decide +kernel
theorem dX9_write_18 : decode cX9_write 18 = .ok (.getfield 36, 3) := by decide +kernel
theorem dX9_write_21 : decode cX9_write 21 = .ok (.iload_n 1, 1) := by decide +kernel
theorem dX9_write_22 : decode cX9_write 22 = .ok (.iaload, 1) := by decide +kernel
theorem dX9_write_23 : decode cX9_write 23 = .ok (.aload_n 2, 1) := by decide +kernel
theorem dX9_write_24 : decode cX9_write 24 = .ok (.invokevirtual 56, 3) := by decide +kernel
theorem dX9_write_27 : decode cX9_write 27 = .ok (.iconst 0, 1) := by decide +kernel
theorem dX9_write_28 : decode cX9_write 28 = .ok (.istore_n 3, 1) := by decide +kernel
theorem dX9_write_29 : decode cX9_write 29 = .ok (.iload_n 3, 1) := by decide +kernel
theorem dX9_write_30 : decode cX9_write 30 = .ok (.aload_n 0, 1) := by decide +kernel
theorem dX9_write_31 : decode cX9_write 31 = .ok (.getfield 43, 3) := by decide +kernel
theorem dX9_write_34 : decode cX9_write 34 = .ok (.if_icmp .ge 35, 3) := by decide +kernel
theorem dX9_write_37 : decode cX9_write 37 = .ok (.iload_n 3, 1) := by decide +kernel
theorem dX9_write_38 : decode cX9_write 38 = .ok (.aload_n 0, 1) := by decide +kernel
theorem dX9_write_39 : decode cX9_write 39 = .ok (.getfield 19, 3) := by decide +kernel
theorem dX9_write_42 : decode cX9_write 42 = .ok (.arraylength, 1) := by decide +kernel
theorem dX9_write_43 : decode cX9_write 43 = .ok (.if_icmp .ge 26, 3) := by decide +kernel
theorem dX9_write_46 : decode cX9_write 46 = .ok (.aload_n 2, 1) := by decide +kernel
theorem dX9_write_47 : decode cX9_write 47 = .ok (.bipush 32, 2) := by decide +kernel
theorem dX9_write_49 : decode cX9_write 49 = .ok (.invokevirtual 60, 3) := by decide +kernel
theorem dX9_write_52 : decode cX9_write 52 = .ok (.aload_n 0, 1) := by decide +kernel
theorem dX9_write_53 : decode cX9_write 53 = .ok (.aload_n 0, 1) := by decide +kernel
theorem dX9_write_54 : decode cX9_write 54 = .ok (.getfield 19, 3) := by decide +kernel
theorem dX9_write_57 : decode cX9_write 57 = .ok (.iload_n 3, 1) := by decide +kernel
theorem dX9_write_58 : decode cX9_write 58 = .ok (.iaload, 1) := by decide +kernel
theorem dX9_write_59 : decode cX9_write 59 = .ok (.aload_n 2, 1) := by decide +kernel
theorem dX9_write_60 : decode cX9_write 60 = .ok (.invokevirtual 66, 3) := by decide +kernel
theorem dX9_write_63 : decode cX9_write 63 = .ok (.iinc 3 1, 3) := by decide +kernel
theorem dX9_write_66 : decode cX9_write 66 = .ok (.goto (-37), 3) := by decide +kernel
theorem dX9_write_69 : decode cX9_write 69 = .ok (.return_, 1) := by decide +kernel
theorem dX9_writeThing_0 : decode cX9_writeThing 0 = .ok (.aload_n 0, 1) := by decide +kernel
theorem dX9_writeThing_1 : decode cX9_writeThing 1 = .ok (.getfield 7, 3) := by decide +kernel
theorem dX9_writeThing_4 : decode cX9_writeThing 4 = .ok (.iload_n 1, 1) := by decide +kernel
theorem dX9_writeThing_5 : decode cX9_writeThing 5 = .ok (.invokevirtual 70, 3) := by decide +kernel
theorem dX9_writeThing_8 : decode cX9_writeThing 8 = .ok (.istore_n 3, 1) := by decide +kernel
theorem dX9_writeThing_9 : decode cX9_writeThing 9 = .ok (.aload_n 2, 1) := by decide +kernel
theorem dX9_writeThing_10 : decode cX9_writeThing 10 = .ok (.iload_n 3, 1) := by decide +kernel
theorem dX9_writeThing_11 : decode cX9_writeThing 11 = .ok (.ifCond .eq 8, 3) := by decide +kernel
theorem dX9_writeThing_14 : decode cX9_writeThing 14 = .ok (.bipush 91, 2) := by decide +kernel
theorem dX9_writeThing_16 : decode cX9_writeThing 16 = .ok (.goto 5, 3) := by decide +kernel
theorem dX9_writeThing_19 : decode cX9_writeThing 19 = .ok (.bipush 123, 2) := by decide +kernel
theorem dX9_writeThing_21 : decode cX9_writeThing 21 = .ok (.invokevirtual 60, 3) := by decide +kernel
theorem dX9_writeThing_24 : decode cX9_writeThing 24 = .ok (.iload_n 1, 1) := by decide +kernel
theorem dX9_writeThing_25 : decode cX9_writeThing 25 = .ok (.iconst 2, 1) := by decide +kernel
theorem dX9_writeThing_26 : decode cX9_writeThing 26 = .ok (.iadd, 1) := by decide +kernel
theorem dX9_writeThing_27 : decode cX9_writeThing 27 = .ok (.istore 4, 2) := by decide +kernel
theorem dX9_writeThing_29 : decode cX9_writeThing 29 = .ok (.aload_n 0, 1) := by decide +kernel
theorem dX9_writeThing_30 : decode cX9_writeThing 30 = .ok (.getfield 7, 3) := by decide +kernel
theorem dX9_writeThing_33 : decode cX9_writeThing 33 = .ok (.iload_n 1, 1) := by decide +kernel
theorem dX9_writeThing_34 : decode cX9_writeThing 34 = .ok (.invokevirtual 46, 3) := by decide +kernel
theorem dX9_writeThing_37 : decode cX9_writeThing 37 = .ok (.istore 5, 2) := by decide +kernel
theorem dX9_writeThing_39 : decode cX9_writeThing 39 = .ok (.iload 4, 2) := by decide +kernel
theorem dX9_writeThing_41 : decode cX9_writeThing 41 = .ok (.istore 6, 2) := by decide +kernel
theorem dX9_writeThing_43 : decode cX9_writeThing 43 = .ok (.iload 6, 2) := by decide +kernel
theorem dX9_writeThing_45 : decode cX9_writeThing 45 = .ok (.iload 4, 2) := by decide +kernel
theorem dX9_writeThing_47 : decode cX9_writeThing 47 = .ok (.iload 5, 2) := by decide +kernel
theorem dX9_writeThing_49 : decode cX9_writeThing 49 = .ok (.iadd, 1) := by decide +kernel
theorem dX9_writeThing_50 : decode cX9_writeThing 50 = .ok (.if_icmp .ge 47, 3) := by decide +kernel
theorem dX9_writeThing_53 : decode cX9_writeThing 53 = .ok (.iload 6, 2) := by decide +kernel
theorem dX9_writeThing_55 : decode cX9_writeThing 55 = .ok (.iload 4, 2) := by decide +kernel
theorem dX9_writeThing_57 : decode cX9_writeThing 57 = .ok (.if_icmp .le 9, 3) := by decide +kernel
theorem dX9_writeThing_60 : decode cX9_writeThing 60 = .ok (.aload_n 2, 1) := by decide +kernel
theorem dX9_writeThing_61 : decode cX9_writeThing 61 = .ok (.bipush 32, 2) := by decide +kernel
theorem dX9_writeThing_63 : decode cX9_writeThing 63 = .ok (.invokevirtual 60, 3) := by decide +kernel
theorem dX9_writeThing_66 : decode cX9_writeThing 66 = .ok (.aload_n 0, 1) := by decide +kernel
theorem dX9_writeThing_67 : decode cX9_writeThing 67 = .ok (.aload_n 0, 1) := by decide +kernel
theorem dX9_writeThing_68 : decode cX9_writeThing 68 = .ok (.getfield 7, 3) := by decide +kernel
theorem dX9_writeThing_71 : decode cX9_writeThing 71 = .ok (.getfield 50, 3) := by decide +kernel
theorem dX9_writeThing_74 : decode cX9_writeThing 74 = .ok (.iload 6, 2) := by decide +kernel
theorem dX9_writeThing_76 : decode cX9_writeThing 76 = .ok (.iaload, 1) := by decide +kernel
theorem dX9_writeThing_77 : decode cX9_writeThing 77 = .ok (.aload_n 0, 1) := by decide +kernel
theorem dX9_writeThing_78 : decode cX9_writeThing 78 = .ok (.getfield 7, 3) := by decide +kernel
theorem dX9_writeThing_81 : decode cX9_writeThing 81 = .ok (.getfield 53, 3) := by decide +kernel
theorem dX9_writeThing_84 : decode cX9_writeThing 84 = .ok (.iload 6, 2) := by decide +kernel
theorem dX9_writeThing_86 : decode cX9_writeThing 86 = .ok (.iaload, 1) := by decide +kernel
theorem dX9_writeThing_87 : decode cX9_writeThing 87 = .ok (.aload_n 2, 1) := by decide +kernel
theorem dX9_writeThing_88 : decode cX9_writeThing 88 = .ok (.invokevirtual 56, 3) := by decide +kernel
theorem dX9_writeThing_91 : decode cX9_writeThing 91 = .ok (.iinc 6 1, 3) := by decide +kernel
theorem dX9_writeThing_94 : decode cX9_writeThing 94 = .ok (.goto (-51), 3) := by decide +kernel
theorem dX9_writeThing_97 : decode cX9_writeThing 97 = .ok (.aload_n 2, 1) := by decide +kernel
theorem dX9_writeThing_98 : decode cX9_writeThing 98 = .ok (.iload_n 3, 1) := by decide +kernel
theorem dX9_writeThing_99 : decode cX9_writeThing 99 = .ok (.ifCond .eq 8, 3) := by decide +kernel
theorem dX9_writeThing_102 : decode cX9_writeThing 102 = .ok (.bipush 93, 2) := by decide +kernel
theorem dX9_writeThing_104 : decode cX9_writeThing 104 = .ok (.goto 5, 3) := by decide +kernel
theorem dX9_writeThing_107 : decode cX9_writeThing 107 = .ok (.bipush 125, 2) := by decide +kernel
theorem dX9_writeThing_109 : decode cX9_writeThing 109 = .ok (.invokevirtual 60, 3) := by decide +kernel
theorem dX9_writeThing_112 : decode cX9_writeThing 112 = .ok (.return_, 1) := by decide +kernel
theorem dX9_writeWord_0 : decode cX9_writeWord 0 = .ok (.iload_n 1, 1) := by decide +kernel
theorem dX9_writeWord_1 : decode cX9_writeWord 1 = .ok (.ifCond .ne 11, 3) := by decide +kernel
theorem dX9_writeWord_4 : decode cX9_writeWord 4 = .ok (.aload_n 3, 1) := by decide +kernel
theorem dX9_writeWord_5 : decode cX9_writeWord 5 = .ok (.iload_n 2, 1) := by decide +kernel
theorem dX9_writeWord_6 : decode cX9_writeWord 6 = .ok (.invokevirtual 74, 3) := by decide +kernel
theorem dX9_writeWord_9 : decode cX9_writeWord 9 = .ok (.goto 33, 3) := by decide +kernel
theorem dX9_writeWord_12 : decode cX9_writeWord 12 = .ok (.iload_n 1, 1) := by decide +kernel
theorem dX9_writeWord_13 : decode cX9_writeWord 13 = .ok (.iconst 2, 1) := by decide +kernel
theorem dX9_writeWord_14 : decode cX9_writeWord 14 = .ok (.if_icmp .ne 22, 3) := by decide +kernel
theorem dX9_writeWord_17 : decode cX9_writeWord 17 = .ok (.aload_n 3, 1) := by decide +kernel
theorem dX9_writeWord_18 : decode cX9_writeWord 18 = .ok (.bipush 35, 2) := by decide +kernel
theorem dX9_writeWord_20 : decode cX9_writeWord 20 = .ok (.invokevirtual 60, 3) := by decide +kernel
theorem dX9_writeWord_23 : decode cX9_writeWord 23 = .ok (.aload_n 3, 1) := by decide +kernel
theorem dX9_writeWord_24 : decode cX9_writeWord 24 = .ok (.aload_n 0, 1) := by decide +kernel
theorem dX9_writeWord_25 : decode cX9_writeWord 25 = .ok (.iload_n 1, 1) := by decide +kernel
theorem dX9_writeWord_26 : decode cX9_writeWord 26 = .ok (.iload_n 2, 1) := by decide +kernel
theorem dX9_writeWord_27 : decode cX9_writeWord 27 = .ok (.invokevirtual 39, 3) := by decide +kernel
theorem dX9_writeWord_30 : decode cX9_writeWord 30 = .ok (.invokevirtual 74, 3) := by decide +kernel
theorem dX9_writeWord_33 : decode cX9_writeWord 33 = .ok (.goto 9, 3) := by decide +kernel
theorem dX9_writeWord_36 : decode cX9_writeWord 36 = .ok (.aload_n 3, 1) := by decide +kernel
theorem dX9_writeWord_37 : decode cX9_writeWord 37 = .ok (.bipush 46, 2) := by decide +kernel
theorem dX9_writeWord_39 : decode cX9_writeWord 39 = .ok (.invokevirtual 60, 3) := by decide +kernel
theorem dX9_writeWord_42 : decode cX9_writeWord 42 = .ok (.return_, 1) := by decide +kernel
theorem dX9_clear_0 : decode cX9_clear 0 = .ok (.iconst 0, 1) := by decide +kernel
theorem dX9_clear_1 : decode cX9_clear 1 = .ok (.istore_n 1, 1) := by decide +kernel
theorem dX9_clear_2 : decode cX9_clear 2 = .ok (.iload_n 1, 1) := by decide +kernel
theorem dX9_clear_3 : decode cX9_clear 3 = .ok (.aload_n 0, 1) := by decide +kernel
theorem dX9_clear_4 : decode cX9_clear 4 = .ok (.getfield 43, 3) := by decide +kernel
theorem dX9_clear_7 : decode cX9_clear 7 = .ok (.if_icmp .ge 21, 3) := by decide +kernel
theorem dX9_clear_10 : decode cX9_clear 10 = .ok (.aload_n 0, 1) := by decide +kernel
theorem dX9_clear_11 : decode cX9_clear 11 = .ok (.getfield 23, 3) := by decide +kernel
theorem dX9_clear_14 : decode cX9_clear 14 = .ok (.aload_n 0, 1) := by decide +kernel
theorem dX9_clear_15 : decode cX9_clear 15 = .ok (.getfield 19, 3) := by decide +kernel
theorem dX9_clear_18 : decode cX9_clear 18 = .ok (.iload_n 1, 1) := by decide +kernel
theorem dX9_clear_19 : decode cX9_clear 19 = .ok (.iaload, 1) := by decide +kernel
theorem dX9_clear_20 : decode cX9_clear 20 = .ok (.iconst 0, 1) := by decide +kernel
theorem dX9_clear_21 : decode cX9_clear 21 = .ok (.iastore, 1) := by decide +kernel
theorem dX9_clear_22 : decode cX9_clear 22 = .ok (.iinc 1 1, 3) := by decide +kernel
theorem dX9_clear_25 : decode cX9_clear 25 = .ok (.goto (-23), 3) := by decide +kernel
theorem dX9_clear_28 : decode cX9_clear 28 = .ok (.aload_n 0, 1) := by decide +kernel
theorem dX9_clear_29 : decode cX9_clear 29 = .ok (.iconst 0, 1) := by decide +kernel
theorem dX9_clear_30 : decode cX9_clear 30 = .ok (.putfield 43, 3) := by decide +kernel
theorem dX9_clear_33 : decode cX9_clear 33 = .ok (.return_, 1) := by decide +kernel
theorem dX9_meet_0 : decode cX9_meet 0 = .ok (.iload_n 1, 1) := by decide +kernel
theorem dX9_meet_1 : decode cX9_meet 1 = .ok (.iconst 2, 1) := by decide +kernel
theorem dX9_meet_2 : decode cX9_meet 2 = .ok (.if_icmp .eq 5, 3) := by decide +kernel
theorem dX9_meet_5 : decode cX9_meet 5 = .ok (.iconst 0, 1) := by decide +kernel
theorem dX9_meet_6 : decode cX9_meet 6 = .ok (.ireturn, 1) := by decide +kernel
theorem dX9_meet_7 : decode cX9_meet 7 = .ok (.aload_n 0, 1) := by decide +kernel
theorem dX9_meet_8 : decode cX9_meet 8 = .ok (.getfield 7, 3) := by decide +kernel
theorem dX9_meet_11 : decode cX9_meet 11 = .ok (.iload_n 2, 1) := by decide +kernel
theorem dX9_meet_12 : decode cX9_meet 12 = .ok (.invokevirtual 77, 3) := by decide +kernel
theorem dX9_meet_15 : decode cX9_meet 15 = .ok (.istore_n 3, 1) := by decide +kernel
theorem dX9_meet_16 : decode cX9_meet 16 = .ok (.aload_n 0, 1) := by decide +kernel
theorem dX9_meet_17 : decode cX9_meet 17 = .ok (.getfield 23, 3) := by decide +kernel
theorem dX9_meet_20 : decode cX9_meet 20 = .ok (.iload_n 3, 1) := by decide +kernel
theorem dX9_meet_21 : decode cX9_meet 21 = .ok (.iaload, 1) := by decide +kernel
theorem dX9_meet_22 : decode cX9_meet 22 = .ok (.ifCond .ne 45, 3) := by decide +kernel
theorem dX9_meet_25 : decode cX9_meet 25 = .ok (.aload_n 0, 1) := by decide +kernel
theorem dX9_meet_26 : decode cX9_meet 26 = .ok (.getfield 43, 3) := by decide +kernel
theorem dX9_meet_29 : decode cX9_meet 29 = .ok (.aload_n 0, 1) := by decide +kernel
theorem dX9_meet_30 : decode cX9_meet 30 = .ok (.getfield 19, 3) := by decide +kernel
theorem dX9_meet_33 : decode cX9_meet 33 = .ok (.arraylength, 1) := by decide +kernel
theorem dX9_meet_34 : decode cX9_meet 34 = .ok (.if_icmp .ge 33, 3) := by decide +kernel
theorem dX9_meet_37 : decode cX9_meet 37 = .ok (.aload_n 0, 1) := by decide +kernel
theorem dX9_meet_38 : decode cX9_meet 38 = .ok (.getfield 19, 3) := by decide +kernel
theorem dX9_meet_41 : decode cX9_meet 41 = .ok (.aload_n 0, 1) := by decide +kernel
theorem dX9_meet_42 : decode cX9_meet 42 = .ok (.getfield 43, 3) := by decide +kernel
theorem dX9_meet_45 : decode cX9_meet 45 = .ok (.iload_n 3, 1) := by decide +kernel
theorem dX9_meet_46 : decode cX9_meet 46 = .ok (.iastore, 1) := by decide +kernel
theorem dX9_meet_47 : decode cX9_meet 47 = .ok (.aload_n 0, 1) := by decide +kernel
theorem dX9_meet_48 : decode cX9_meet 48 = .ok (.dup, 1) := by decide +kernel
theorem dX9_meet_49 : decode cX9_meet 49 = .ok (.getfield 43, 3) := by decide +kernel
theorem dX9_meet_52 : decode cX9_meet 52 = .ok (.iconst 1, 1) := by decide +kernel
theorem dX9_meet_53 : decode cX9_meet 53 = .ok (.iadd, 1) := by decide +kernel
theorem dX9_meet_54 : decode cX9_meet 54 = .ok (.putfield 43, 3) := by decide +kernel
theorem dX9_meet_57 : decode cX9_meet 57 = .ok (.aload_n 0, 1) := by decide +kernel
theorem dX9_meet_58 : decode cX9_meet 58 = .ok (.getfield 23, 3) := by decide +kernel
theorem dX9_meet_61 : decode cX9_meet 61 = .ok (.iload_n 3, 1) := by decide +kernel
theorem dX9_meet_62 : decode cX9_meet 62 = .ok (.aload_n 0, 1) := by decide +kernel
theorem dX9_meet_63 : decode cX9_meet 63 = .ok (.getfield 43, 3) := by decide +kernel
theorem dX9_meet_66 : decode cX9_meet 66 = .ok (.iastore, 1) := by decide +kernel
theorem dX9_meet_67 : decode cX9_meet 67 = .ok (.aload_n 0, 1) := by decide +kernel
theorem dX9_meet_68 : decode cX9_meet 68 = .ok (.getfield 23, 3) := by decide +kernel
theorem dX9_meet_71 : decode cX9_meet 71 = .ok (.iload_n 3, 1) := by decide +kernel
theorem dX9_meet_72 : decode cX9_meet 72 = .ok (.iaload, 1) := by decide +kernel
theorem dX9_meet_73 : decode cX9_meet 73 = .ok (.ireturn, 1) := by decide +kernel
