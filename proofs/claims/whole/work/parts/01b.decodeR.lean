theorem dR_init_0 : decode bR_init 0 = .ok (.aload_n 0, 1) := by decide +kernel
theorem dR_init_1 : decode bR_init 1 = .ok (.invokespecial 1, 3) := by decide +kernel
theorem dR_init_4 : decode bR_init 4 = .ok (.aload_n 0, 1) := by decide +kernel
theorem dR_init_5 : decode bR_init 5 = .ok (.bipush 8, 2) := by decide +kernel
theorem dR_init_7 : decode bR_init 7 = .ok (.newarray .boolean, 2) := by decide +kernel
theorem dR_init_9 : decode bR_init 9 = .ok (.putfield 7, 3) := by decide +kernel
theorem dR_init_12 : decode bR_init 12 = .ok (.aload_n 0, 1) := by decide +kernel
theorem dR_init_13 : decode bR_init 13 = .ok (.bipush 8, 2) := by decide +kernel
theorem dR_init_15 : decode bR_init 15 = .ok (.newarray .int, 2) := by decide +kernel
theorem dR_init_17 : decode bR_init 17 = .ok (.putfield 13, 3) := by decide +kernel
theorem dR_init_20 : decode bR_init 20 = .ok (.aload_n 0, 1) := by decide +kernel
theorem dR_init_21 : decode bR_init 21 = .ok (.sipush 488, 3) := by decide +kernel
theorem dR_init_24 : decode bR_init 24 = .ok (.newarray .int, 2) := by decide +kernel
theorem dR_init_26 : decode bR_init 26 = .ok (.putfield 17, 3) := by decide +kernel
theorem dR_init_29 : decode bR_init 29 = .ok (.aload_n 0, 1) := by decide +kernel
theorem dR_init_30 : decode bR_init 30 = .ok (.sipush 3840, 3) := by decide +kernel
theorem dR_init_33 : decode bR_init 33 = .ok (.newarray .int, 2) := by decide +kernel
theorem dR_init_35 : decode bR_init 35 = .ok (.putfield 20, 3) := by decide +kernel
theorem dR_init_38 : decode bR_init 38 = .ok (.aload_n 0, 1) := by decide +kernel
theorem dR_init_39 : decode bR_init 39 = .ok (.bipush 8, 2) := by decide +kernel
theorem dR_init_41 : decode bR_init 41 = .ok (.newarray .int, 2) := by decide +kernel
theorem dR_init_43 : decode bR_init 43 = .ok (.putfield 23, 3) := by decide +kernel
theorem dR_init_46 : decode bR_init 46 = .ok (.aload_n 0, 1) := by decide +kernel
theorem dR_init_47 : decode bR_init 47 = .ok (.bipush 120, 2) := by decide +kernel
theorem dR_init_49 : decode bR_init 49 = .ok (.newarray .int, 2) := by decide +kernel
theorem dR_init_51 : decode bR_init 51 = .ok (.putfield 26, 3) := by decide +kernel
theorem dR_init_54 : decode bR_init 54 = .ok (.aload_n 0, 1) := by decide +kernel
theorem dR_init_55 : decode bR_init 55 = .ok (.bipush 120, 2) := by decide +kernel
theorem dR_init_57 : decode bR_init 57 = .ok (.newarray .int, 2) := by decide +kernel
theorem dR_init_59 : decode bR_init 59 = .ok (.putfield 29, 3) := by decide +kernel
theorem dR_init_62 : decode bR_init 62 = .ok (.aload_n 0, 1) := by decide +kernel
theorem dR_init_63 : decode bR_init 63 = .ok (.bipush 120, 2) := by decide +kernel
theorem dR_init_65 : decode bR_init 65 = .ok (.newarray .int, 2) := by decide +kernel
theorem dR_init_67 : decode bR_init 67 = .ok (.putfield 32, 3) := by decide +kernel
theorem dR_init_70 : decode bR_init 70 = .ok (.aload_n 0, 1) := by decide +kernel
theorem dR_init_71 : decode bR_init 71 = .ok (.bipush 120, 2) := by decide +kernel
theorem dR_init_73 : decode bR_init 73 = .ok (.newarray .int, 2) := by decide +kernel
theorem dR_init_75 : decode bR_init 75 = .ok (.putfield 35, 3) := by decide +kernel
theorem dR_init_78 : decode bR_init 78 = .ok (.aload_n 0, 1) := by decide +kernel
theorem dR_init_79 : decode bR_init 79 = .ok (.bipush 120, 2) := by decide +kernel
theorem dR_init_81 : decode bR_init 81 = .ok (.newarray .int, 2) := by decide +kernel
theorem dR_init_83 : decode bR_init 83 = .ok (.putfield 38, 3) := by decide +kernel
theorem dR_init_86 : decode bR_init 86 = .ok (.aload_n 0, 1) := by decide +kernel
theorem dR_init_87 : decode bR_init 87 = .ok (.bipush 120, 2) := by decide +kernel
theorem dR_init_89 : decode bR_init 89 = .ok (.newarray .long, 2) := by decide +kernel
theorem dR_init_91 : decode bR_init 91 = .ok (.putfield 41, 3) := by decide +kernel
theorem dR_init_94 : decode bR_init 94 = .ok (.aload_n 0, 1) := by decide +kernel
theorem dR_init_95 : decode bR_init 95 = .ok (.ldc 45, 2) := by decide +kernel
theorem dR_init_97 : decode bR_init 97 = .ok (.newarray .int, 2) := by decide +kernel
theorem dR_init_99 : decode bR_init 99 = .ok (.putfield 46, 3) := by decide +kernel
theorem dR_init_102 : decode bR_init 102 = .ok (.aload_n 0, 1) := by decide +kernel
theorem dR_init_103 : decode bR_init 103 = .ok (.sipush 480, 3) := by decide +kernel
theorem dR_init_106 : decode bR_init 106 = .ok (.newarray .int, 2) := by decide +kernel
theorem dR_init_108 : decode bR_init 108 = .ok (.putfield 49, 3) := by decide +kernel
theorem dR_init_111 : decode bR_init 111 = .ok (.aload_n 0, 1) := by decide +kernel
theorem dR_init_112 : decode bR_init 112 = .ok (.iload_n 1, 1) := by decide +kernel
theorem dR_init_113 : decode bR_init 113 = .ok (.iconst 2, 1) := by decide +kernel
theorem dR_init_114 : decode bR_init 114 = .ok (.if_icmp .ge 7, 3) := by decide +kernel
theorem dR_init_117 : decode bR_init 117 = .ok (.iconst 2, 1) := by decide +kernel
theorem dR_init_118 : decode bR_init 118 = .ok (.goto 15, 3) := by decide +kernel
theorem dR_init_121 : decode bR_init 121 = .ok (.iload_n 1, 1) := by decide +kernel
theorem dR_init_122 : decode bR_init 122 = .ok (.bipush 8, 2) := by decide +kernel
theorem dR_init_124 : decode bR_init 124 = .ok (.if_icmp .le 8, 3) := by decide +kernel
theorem dR_init_127 : decode bR_init 127 = .ok (.bipush 8, 2) := by decide +kernel
theorem dR_init_129 : decode bR_init 129 = .ok (.goto 4, 3) := by decide +kernel
theorem dR_init_132 : decode bR_init 132 = .ok (.iload_n 1, 1) := by decide +kernel
theorem dR_init_133 : decode bR_init 133 = .ok (.putfield 52, 3) := by decide +kernel
theorem dR_init_136 : decode bR_init 136 = .ok (.aload_n 0, 1) := by decide +kernel
theorem dR_init_137 : decode bR_init 137 = .ok (.iload_n 2, 1) := by decide +kernel
theorem dR_init_138 : decode bR_init 138 = .ok (.bipush 16, 2) := by decide +kernel
theorem dR_init_140 : decode bR_init 140 = .ok (.if_icmp .ge 8, 3) := by decide +kernel
theorem dR_init_143 : decode bR_init 143 = .ok (.bipush 16, 2) := by decide +kernel
theorem dR_init_145 : decode bR_init 145 = .ok (.goto 17, 3) := by decide +kernel
theorem dR_init_148 : decode bR_init 148 = .ok (.iload_n 2, 1) := by decide +kernel
theorem dR_init_149 : decode bR_init 149 = .ok (.sipush 2000, 3) := by decide +kernel
theorem dR_init_152 : decode bR_init 152 = .ok (.if_icmp .le 9, 3) := by decide +kernel
theorem dR_init_155 : decode bR_init 155 = .ok (.sipush 2000, 3) := by decide +kernel
theorem dR_init_158 : decode bR_init 158 = .ok (.goto 4, 3) := by decide +kernel
theorem dR_init_161 : decode bR_init 161 = .ok (.iload_n 2, 1) := by decide +kernel
theorem dR_init_162 : decode bR_init 162 = .ok (.putfield 56, 3) := by decide +kernel
theorem dR_init_165 : decode bR_init 165 = .ok (.iconst 0, 1) := by decide +kernel
theorem dR_init_166 : decode bR_init 166 = .ok (.istore_n 3, 1) := by decide +kernel
theorem dR_init_167 : decode bR_init 167 = .ok (.iload_n 3, 1) := by decide +kernel
theorem dR_init_168 : decode bR_init 168 = .ok (.bipush 120, 2) := by decide +kernel
theorem dR_init_170 : decode bR_init 170 = .ok (.if_icmp .ge 16, 3) := by decide +kernel
theorem dR_init_173 : decode bR_init 173 = .ok (.aload_n 0, 1) := by decide +kernel
theorem dR_init_174 : decode bR_init 174 = .ok (.getfield 26, 3) := by decide +kernel
theorem dR_init_177 : decode bR_init 177 = .ok (.iload_n 3, 1) := by decide +kernel
theorem dR_init_178 : decode bR_init 178 = .ok (.iload_n 3, 1) := by decide +kernel
theorem dR_init_179 : decode bR_init 179 = .ok (.iastore, 1) := by decide +kernel
theorem dR_init_180 : decode bR_init 180 = .ok (.iinc 3 1, 3) := by decide +kernel
theorem dR_init_183 : decode bR_init 183 = .ok (.goto (-16), 3) := by decide +kernel
theorem dR_init_186 : decode bR_init 186 = .ok (.return_, 1) := by decide +kernel
theorem dR_thrown_0 : decode bR_thrown 0 = .ok (.aload_n 0, 1) := by decide +kernel
theorem dR_thrown_1 : decode bR_thrown 1 = .ok (.getfield 59, 3) := by decide +kernel
theorem dR_thrown_4 : decode bR_thrown 4 = .ok (.ireturn, 1) := by decide +kernel
theorem dR_make_0 : decode bR_make 0 = .ok (.aload_n 0, 1) := by decide +kernel
theorem dR_make_1 : decode bR_make 1 = .ok (.aload_n 0, 1) := by decide +kernel
theorem dR_make_2 : decode bR_make 2 = .ok (.iload_n 1, 1) := by decide +kernel
theorem dR_make_3 : decode bR_make 3 = .ok (.invokevirtual 79, 3) := by decide +kernel
theorem dR_make_6 : decode bR_make 6 = .ok (.ifCond .ne 7, 3) := by decide +kernel
theorem dR_make_9 : decode bR_make 9 = .ok (.iconst 1, 1) := by decide +kernel
theorem dR_make_10 : decode bR_make 10 = .ok (.goto 68, 3) := by decide +kernel
theorem dR_make_13 : decode bR_make 13 = .ok (.iload_n 2, 1) := by decide +kernel
theorem dR_make_14 : decode bR_make 14 = .ok (.iconst 1, 1) := by decide +kernel
theorem dR_make_15 : decode bR_make 15 = .ok (.if_icmp .lt 10, 3) := by decide +kernel
theorem dR_make_18 : decode bR_make 18 = .ok (.iload_n 2, 1) := by decide +kernel
theorem dR_make_19 : decode bR_make 19 = .ok (.sipush 400, 3) := by decide +kernel
theorem dR_make_22 : decode bR_make 22 = .ok (.if_icmp .le 7, 3) := by decide +kernel
theorem dR_make_25 : decode bR_make 25 = .ok (.iconst 2, 1) := by decide +kernel
theorem dR_make_26 : decode bR_make 26 = .ok (.goto 52, 3) := by decide +kernel
theorem dR_make_29 : decode bR_make 29 = .ok (.aload_n 0, 1) := by decide +kernel
theorem dR_make_30 : decode bR_make 30 = .ok (.getfield 7, 3) := by decide +kernel
theorem dR_make_33 : decode bR_make 33 = .ok (.aload_n 0, 1) := by decide +kernel
theorem dR_make_34 : decode bR_make 34 = .ok (.iload_n 1, 1) := by decide +kernel
theorem dR_make_35 : decode bR_make 35 = .ok (.invokevirtual 79, 3) := by decide +kernel
theorem dR_make_38 : decode bR_make 38 = .ok (.ifCond .eq 7, 3) := by decide +kernel
theorem dR_make_41 : decode bR_make 41 = .ok (.iload_n 1, 1) := by decide +kernel
theorem dR_make_42 : decode bR_make 42 = .ok (.goto 4, 3) := by decide +kernel
theorem dR_make_45 : decode bR_make 45 = .ok (.iconst 0, 1) := by decide +kernel
theorem dR_make_46 : decode bR_make 46 = .ok (.baload, 1) := by decide +kernel
theorem dR_make_47 : decode bR_make 47 = .ok (.ifCond .ne 26, 3) := by decide +kernel
theorem dR_make_50 : decode bR_make 50 = .ok (.aload_n 0, 1) := by decide +kernel
theorem dR_make_51 : decode bR_make 51 = .ok (.getfield 13, 3) := by decide +kernel
theorem dR_make_54 : decode bR_make 54 = .ok (.aload_n 0, 1) := by decide +kernel
theorem dR_make_55 : decode bR_make 55 = .ok (.iload_n 1, 1) := by decide +kernel
theorem dR_make_56 : decode bR_make 56 = .ok (.invokevirtual 79, 3) := by decide +kernel
theorem dR_make_59 : decode bR_make 59 = .ok (.ifCond .eq 7, 3) := by decide +kernel
theorem dR_make_62 : decode bR_make 62 = .ok (.iload_n 1, 1) := by decide +kernel
theorem dR_make_63 : decode bR_make 63 = .ok (.goto 4, 3) := by decide +kernel
theorem dR_make_66 : decode bR_make 66 = .ok (.iconst 0, 1) := by decide +kernel
theorem dR_make_67 : decode bR_make 67 = .ok (.iaload, 1) := by decide +kernel
theorem dR_make_68 : decode bR_make 68 = .ok (.bipush 60, 2) := by decide +kernel
theorem dR_make_70 : decode bR_make 70 = .ok (.if_icmp .ne 7, 3) := by decide +kernel
theorem dR_make_73 : decode bR_make 73 = .ok (.iconst 3, 1) := by decide +kernel
theorem dR_make_74 : decode bR_make 74 = .ok (.goto 4, 3) := by decide +kernel
theorem dR_make_77 : decode bR_make 77 = .ok (.iconst 0, 1) := by decide +kernel
theorem dR_make_78 : decode bR_make 78 = .ok (.putfield 59, 3) := by decide +kernel
theorem dR_make_81 : decode bR_make 81 = .ok (.aload_n 0, 1) := by decide +kernel
theorem dR_make_82 : decode bR_make 82 = .ok (.getfield 59, 3) := by decide +kernel
theorem dR_make_85 : decode bR_make 85 = .ok (.ifCond .le 5, 3) := by decide +kernel
theorem dR_make_88 : decode bR_make 88 = .ok (.iconst 0, 1) := by decide +kernel
theorem dR_make_89 : decode bR_make 89 = .ok (.ireturn, 1) := by decide +kernel
theorem dR_make_90 : decode bR_make 90 = .ok (.aload_n 0, 1) := by decide +kernel
theorem dR_make_91 : decode bR_make 91 = .ok (.getfield 17, 3) := by decide +kernel
theorem dR_make_94 : decode bR_make 94 = .ok (.bipush 61, 2) := by decide +kernel
theorem dR_make_96 : decode bR_make 96 = .ok (.iload_n 1, 1) := by decide +kernel
theorem dR_make_97 : decode bR_make 97 = .ok (.imul, 1) := by decide +kernel
theorem dR_make_98 : decode bR_make 98 = .ok (.aload_n 0, 1) := by decide +kernel
theorem dR_make_99 : decode bR_make 99 = .ok (.getfield 13, 3) := by decide +kernel
theorem dR_make_102 : decode bR_make 102 = .ok (.iload_n 1, 1) := by decide +kernel
theorem dR_make_103 : decode bR_make 103 = .ok (.iaload, 1) := by decide +kernel
theorem dR_make_104 : decode bR_make 104 = .ok (.iadd, 1) := by decide +kernel
theorem dR_make_105 : decode bR_make 105 = .ok (.iload_n 2, 1) := by decide +kernel
theorem dR_make_106 : decode bR_make 106 = .ok (.iastore, 1) := by decide +kernel
theorem dR_make_107 : decode bR_make 107 = .ok (.aload_n 0, 1) := by decide +kernel
theorem dR_make_108 : decode bR_make 108 = .ok (.getfield 13, 3) := by decide +kernel
theorem dR_make_111 : decode bR_make 111 = .ok (.iload_n 1, 1) := by decide +kernel
theorem dR_make_112 : decode bR_make 112 = .ok (.dup2, 1) := by decide +kernel
theorem dR_make_113 : decode bR_make 113 = .ok (.iaload, 1) := by decide +kernel
theorem dR_make_114 : decode bR_make 114 = .ok (.iconst 1, 1) := by decide +kernel
theorem dR_make_115 : decode bR_make 115 = .ok (.iadd, 1) := by decide +kernel
theorem dR_make_116 : decode bR_make 116 = .ok (.iastore, 1) := by decide +kernel
theorem dR_make_117 : decode bR_make 117 = .ok (.aload_n 0, 1) := by decide +kernel
theorem dR_make_118 : decode bR_make 118 = .ok (.iload_n 1, 1) := by decide +kernel
theorem dR_make_119 : decode bR_make 119 = .ok (.iload_n 1, 1) := by decide +kernel
theorem dR_make_120 : decode bR_make 120 = .ok (.bipush 8, 2) := by decide +kernel
theorem dR_make_122 : decode bR_make 122 = .ok (.aload_n 0, 1) := by decide +kernel
theorem dR_make_123 : decode bR_make 123 = .ok (.getfield 13, 3) := by decide +kernel
theorem dR_make_126 : decode bR_make 126 = .ok (.iload_n 1, 1) := by decide +kernel
theorem dR_make_127 : decode bR_make 127 = .ok (.iaload, 1) := by decide +kernel
theorem dR_make_128 : decode bR_make 128 = .ok (.imul, 1) := by decide +kernel
theorem dR_make_129 : decode bR_make 129 = .ok (.iadd, 1) := by decide +kernel
theorem dR_make_130 : decode bR_make 130 = .ok (.invokevirtual 83, 3) := by decide +kernel
theorem dR_make_133 : decode bR_make 133 = .ok (.aload_n 0, 1) := by decide +kernel
theorem dR_make_134 : decode bR_make 134 = .ok (.getfield 13, 3) := by decide +kernel
theorem dR_make_137 : decode bR_make 137 = .ok (.iload_n 1, 1) := by decide +kernel
theorem dR_make_138 : decode bR_make 138 = .ok (.iaload, 1) := by decide +kernel
theorem dR_make_139 : decode bR_make 139 = .ok (.ireturn, 1) := by decide +kernel
theorem dR_isReplica_0 : decode bR_isReplica 0 = .ok (.iload_n 1, 1) := by decide +kernel
theorem dR_isReplica_1 : decode bR_isReplica 1 = .ok (.ifCond .lt 15, 3) := by decide +kernel
theorem dR_isReplica_4 : decode bR_isReplica 4 = .ok (.iload_n 1, 1) := by decide +kernel
theorem dR_isReplica_5 : decode bR_isReplica 5 = .ok (.aload_n 0, 1) := by decide +kernel
theorem dR_isReplica_6 : decode bR_isReplica 6 = .ok (.getfield 52, 3) := by decide +kernel
theorem dR_isReplica_9 : decode bR_isReplica 9 = .ok (.if_icmp .ge 7, 3) := by decide +kernel
theorem dR_isReplica_12 : decode bR_isReplica 12 = .ok (.iconst 1, 1) := by decide +kernel
theorem dR_isReplica_13 : decode bR_isReplica 13 = .ok (.goto 4, 3) := by decide +kernel
theorem dR_isReplica_16 : decode bR_isReplica 16 = .ok (.iconst 0, 1) := by decide +kernel
theorem dR_isReplica_17 : decode bR_isReplica 17 = .ok (.ireturn, 1) := by decide +kernel
theorem dR_enter_0 : decode bR_enter 0 = .ok (.aload_n 0, 1) := by decide +kernel
theorem dR_enter_1 : decode bR_enter 1 = .ok (.getfield 20, 3) := by decide +kernel
theorem dR_enter_4 : decode bR_enter 4 = .ok (.sipush 480, 3) := by decide +kernel
theorem dR_enter_7 : decode bR_enter 7 = .ok (.iload_n 1, 1) := by decide +kernel
theorem dR_enter_8 : decode bR_enter 8 = .ok (.imul, 1) := by decide +kernel
theorem dR_enter_9 : decode bR_enter 9 = .ok (.aload_n 0, 1) := by decide +kernel
theorem dR_enter_10 : decode bR_enter 10 = .ok (.getfield 23, 3) := by decide +kernel
theorem dR_enter_13 : decode bR_enter 13 = .ok (.iload_n 1, 1) := by decide +kernel
theorem dR_enter_14 : decode bR_enter 14 = .ok (.iaload, 1) := by decide +kernel
theorem dR_enter_15 : decode bR_enter 15 = .ok (.iadd, 1) := by decide +kernel
theorem dR_enter_16 : decode bR_enter 16 = .ok (.iload_n 2, 1) := by decide +kernel
theorem dR_enter_17 : decode bR_enter 17 = .ok (.iastore, 1) := by decide +kernel
theorem dR_enter_18 : decode bR_enter 18 = .ok (.aload_n 0, 1) := by decide +kernel
theorem dR_enter_19 : decode bR_enter 19 = .ok (.getfield 23, 3) := by decide +kernel
theorem dR_enter_22 : decode bR_enter 22 = .ok (.iload_n 1, 1) := by decide +kernel
theorem dR_enter_23 : decode bR_enter 23 = .ok (.dup2, 1) := by decide +kernel
theorem dR_enter_24 : decode bR_enter 24 = .ok (.iaload, 1) := by decide +kernel
theorem dR_enter_25 : decode bR_enter 25 = .ok (.iconst 1, 1) := by decide +kernel
theorem dR_enter_26 : decode bR_enter 26 = .ok (.iadd, 1) := by decide +kernel
theorem dR_enter_27 : decode bR_enter 27 = .ok (.iastore, 1) := by decide +kernel
theorem dR_enter_28 : decode bR_enter 28 = .ok (.return_, 1) := by decide +kernel
theorem dR_tick_0 : decode bR_tick 0 = .ok (.aload_n 0, 1) := by decide +kernel
theorem dR_tick_1 : decode bR_tick 1 = .ok (.aload_n 0, 1) := by decide +kernel
theorem dR_tick_2 : decode bR_tick 2 = .ok (.iload_n 1, 1) := by decide +kernel
theorem dR_tick_3 : decode bR_tick 3 = .ok (.invokevirtual 79, 3) := by decide +kernel
theorem dR_tick_6 : decode bR_tick 6 = .ok (.ifCond .ne 7, 3) := by decide +kernel
theorem dR_tick_9 : decode bR_tick 9 = .ok (.iconst 1, 1) := by decide +kernel
theorem dR_tick_10 : decode bR_tick 10 = .ok (.goto 29, 3) := by decide +kernel
theorem dR_tick_13 : decode bR_tick 13 = .ok (.aload_n 0, 1) := by decide +kernel
theorem dR_tick_14 : decode bR_tick 14 = .ok (.getfield 7, 3) := by decide +kernel
theorem dR_tick_17 : decode bR_tick 17 = .ok (.aload_n 0, 1) := by decide +kernel
theorem dR_tick_18 : decode bR_tick 18 = .ok (.iload_n 1, 1) := by decide +kernel
theorem dR_tick_19 : decode bR_tick 19 = .ok (.invokevirtual 79, 3) := by decide +kernel
theorem dR_tick_22 : decode bR_tick 22 = .ok (.ifCond .eq 7, 3) := by decide +kernel
theorem dR_tick_25 : decode bR_tick 25 = .ok (.iload_n 1, 1) := by decide +kernel
theorem dR_tick_26 : decode bR_tick 26 = .ok (.goto 4, 3) := by decide +kernel
theorem dR_tick_29 : decode bR_tick 29 = .ok (.iconst 0, 1) := by decide +kernel
theorem dR_tick_30 : decode bR_tick 30 = .ok (.baload, 1) := by decide +kernel
theorem dR_tick_31 : decode bR_tick 31 = .ok (.ifCond .eq 7, 3) := by decide +kernel
theorem dR_tick_34 : decode bR_tick 34 = .ok (.iconst 2, 1) := by decide +kernel
theorem dR_tick_35 : decode bR_tick 35 = .ok (.goto 4, 3) := by decide +kernel
theorem dR_tick_38 : decode bR_tick 38 = .ok (.iconst 0, 1) := by decide +kernel
theorem dR_tick_39 : decode bR_tick 39 = .ok (.putfield 59, 3) := by decide +kernel
theorem dR_tick_42 : decode bR_tick 42 = .ok (.aload_n 0, 1) := by decide +kernel
theorem dR_tick_43 : decode bR_tick 43 = .ok (.getfield 59, 3) := by decide +kernel
theorem dR_tick_46 : decode bR_tick 46 = .ok (.ifCond .le 5, 3) := by decide +kernel
theorem dR_tick_49 : decode bR_tick 49 = .ok (.iconst 0, 1) := by decide +kernel
theorem dR_tick_50 : decode bR_tick 50 = .ok (.ireturn, 1) := by decide +kernel
theorem dR_tick_51 : decode bR_tick 51 = .ok (.aload_n 0, 1) := by decide +kernel
theorem dR_tick_52 : decode bR_tick 52 = .ok (.iload_n 1, 1) := by decide +kernel
theorem dR_tick_53 : decode bR_tick 53 = .ok (.invokevirtual 87, 3) := by decide +kernel
theorem dR_tick_56 : decode bR_tick 56 = .ok (.lstore_n 2, 1) := by decide +kernel
theorem dR_tick_57 : decode bR_tick 57 = .ok (.iconst 0, 1) := by decide +kernel
theorem dR_tick_58 : decode bR_tick 58 = .ok (.istore 4, 2) := by decide +kernel
theorem dR_tick_60 : decode bR_tick 60 = .ok (.iload 4, 2) := by decide +kernel
theorem dR_tick_62 : decode bR_tick 62 = .ok (.aload_n 0, 1) := by decide +kernel
theorem dR_tick_63 : decode bR_tick 63 = .ok (.getfield 52, 3) := by decide +kernel
theorem dR_tick_66 : decode bR_tick 66 = .ok (.if_icmp .ge 30, 3) := by decide +kernel
theorem dR_tick_69 : decode bR_tick 69 = .ok (.iload 4, 2) := by decide +kernel
theorem dR_tick_71 : decode bR_tick 71 = .ok (.iload_n 1, 1) := by decide +kernel
theorem dR_tick_72 : decode bR_tick 72 = .ok (.if_icmp .ne 7, 3) := by decide +kernel
theorem dR_tick_75 : decode bR_tick 75 = .ok (.iconst (-1), 1) := by decide +kernel
theorem dR_tick_76 : decode bR_tick 76 = .ok (.goto 12, 3) := by decide +kernel
theorem dR_tick_79 : decode bR_tick 79 = .ok (.aload_n 0, 1) := by decide +kernel
theorem dR_tick_80 : decode bR_tick 80 = .ok (.iload_n 1, 1) := by decide +kernel
theorem dR_tick_81 : decode bR_tick 81 = .ok (.iload 4, 2) := by decide +kernel
theorem dR_tick_83 : decode bR_tick 83 = .ok (.iconst (-1), 1) := by decide +kernel
theorem dR_tick_84 : decode bR_tick 84 = .ok (.lload_n 2, 1) := by decide +kernel
theorem dR_tick_85 : decode bR_tick 85 = .ok (.invokevirtual 91, 3) := by decide +kernel
theorem dR_tick_88 : decode bR_tick 88 = .ok (.istore 5, 2) := by decide +kernel
theorem dR_tick_90 : decode bR_tick 90 = .ok (.iinc 4 1, 3) := by decide +kernel
theorem dR_tick_93 : decode bR_tick 93 = .ok (.goto (-33), 3) := by decide +kernel
theorem dR_tick_96 : decode bR_tick 96 = .ok (.aload_n 0, 1) := by decide +kernel
theorem dR_tick_97 : decode bR_tick 97 = .ok (.getfield 52, 3) := by decide +kernel
theorem dR_tick_100 : decode bR_tick 100 = .ok (.iconst 1, 1) := by decide +kernel
theorem dR_tick_101 : decode bR_tick 101 = .ok (.isub, 1) := by decide +kernel
theorem dR_tick_102 : decode bR_tick 102 = .ok (.ireturn, 1) := by decide +kernel
theorem dR_clockOf_0 : decode bR_clockOf 0 = .ok (.lconst 0, 1) := by decide +kernel
theorem dR_clockOf_1 : decode bR_clockOf 1 = .ok (.lstore_n 2, 1) := by decide +kernel
theorem dR_clockOf_2 : decode bR_clockOf 2 = .ok (.bipush 7, 2) := by decide +kernel
theorem dR_clockOf_4 : decode bR_clockOf 4 = .ok (.istore 4, 2) := by decide +kernel
theorem dR_clockOf_6 : decode bR_clockOf 6 = .ok (.iload 4, 2) := by decide +kernel
theorem dR_clockOf_8 : decode bR_clockOf 8 = .ok (.ifCond .lt 23, 3) := by decide +kernel
theorem dR_clockOf_11 : decode bR_clockOf 11 = .ok (.lload_n 2, 1) := by decide +kernel
theorem dR_clockOf_12 : decode bR_clockOf 12 = .ok (.bipush 8, 2) := by decide +kernel
theorem dR_clockOf_14 : decode bR_clockOf 14 = .ok (.lshl, 1) := by decide +kernel
theorem dR_clockOf_15 : decode bR_clockOf 15 = .ok (.aload_n 0, 1) := by decide +kernel
theorem dR_clockOf_16 : decode bR_clockOf 16 = .ok (.iload_n 1, 1) := by decide +kernel
theorem dR_clockOf_17 : decode bR_clockOf 17 = .ok (.iload 4, 2) := by decide +kernel
theorem dR_clockOf_19 : decode bR_clockOf 19 = .ok (.invokevirtual 65, 3) := by decide +kernel
theorem dR_clockOf_22 : decode bR_clockOf 22 = .ok (.i2l, 1) := by decide +kernel
theorem dR_clockOf_23 : decode bR_clockOf 23 = .ok (.lor, 1) := by decide +kernel
theorem dR_clockOf_24 : decode bR_clockOf 24 = .ok (.lstore_n 2, 1) := by decide +kernel
theorem dR_clockOf_25 : decode bR_clockOf 25 = .ok (.iinc 4 (-1), 3) := by decide +kernel
theorem dR_clockOf_28 : decode bR_clockOf 28 = .ok (.goto (-22), 3) := by decide +kernel
theorem dR_clockOf_31 : decode bR_clockOf 31 = .ok (.lload_n 2, 1) := by decide +kernel
theorem dR_clockOf_32 : decode bR_clockOf 32 = .ok (.lreturn, 1) := by decide +kernel
theorem dR_reached_0 : decode bR_reached 0 = .ok (.iconst 0, 1) := by decide +kernel
theorem dR_reached_1 : decode bR_reached 1 = .ok (.istore_n 3, 1) := by decide +kernel
theorem dR_reached_2 : decode bR_reached 2 = .ok (.iconst 0, 1) := by decide +kernel
theorem dR_reached_3 : decode bR_reached 3 = .ok (.istore 4, 2) := by decide +kernel
theorem dR_reached_5 : decode bR_reached 5 = .ok (.iload 4, 2) := by decide +kernel
theorem dR_reached_7 : decode bR_reached 7 = .ok (.aload_n 0, 1) := by decide +kernel
theorem dR_reached_8 : decode bR_reached 8 = .ok (.getfield 23, 3) := by decide +kernel
theorem dR_reached_11 : decode bR_reached 11 = .ok (.iload_n 1, 1) := by decide +kernel
theorem dR_reached_12 : decode bR_reached 12 = .ok (.iaload, 1) := by decide +kernel
theorem dR_reached_13 : decode bR_reached 13 = .ok (.if_icmp .ge 37, 3) := by decide +kernel
theorem dR_reached_16 : decode bR_reached 16 = .ok (.iload_n 3, 1) := by decide +kernel
theorem dR_reached_17 : decode bR_reached 17 = .ok (.aload_n 0, 1) := by decide +kernel
theorem dR_reached_18 : decode bR_reached 18 = .ok (.getfield 20, 3) := by decide +kernel
theorem dR_reached_21 : decode bR_reached 21 = .ok (.sipush 480, 3) := by decide +kernel
theorem dR_reached_24 : decode bR_reached 24 = .ok (.iload_n 1, 1) := by decide +kernel
theorem dR_reached_25 : decode bR_reached 25 = .ok (.imul, 1) := by decide +kernel
theorem dR_reached_26 : decode bR_reached 26 = .ok (.iload 4, 2) := by decide +kernel
theorem dR_reached_28 : decode bR_reached 28 = .ok (.iadd, 1) := by decide +kernel
theorem dR_reached_29 : decode bR_reached 29 = .ok (.iaload, 1) := by decide +kernel
theorem dR_reached_30 : decode bR_reached 30 = .ok (.bipush 8, 2) := by decide +kernel
theorem dR_reached_32 : decode bR_reached 32 = .ok (.irem, 1) := by decide +kernel
theorem dR_reached_33 : decode bR_reached 33 = .ok (.iload_n 2, 1) := by decide +kernel
theorem dR_reached_34 : decode bR_reached 34 = .ok (.if_icmp .ne 7, 3) := by decide +kernel
theorem dR_reached_37 : decode bR_reached 37 = .ok (.iconst 1, 1) := by decide +kernel
theorem dR_reached_38 : decode bR_reached 38 = .ok (.goto 4, 3) := by decide +kernel
theorem dR_reached_41 : decode bR_reached 41 = .ok (.iconst 0, 1) := by decide +kernel
theorem dR_reached_42 : decode bR_reached 42 = .ok (.iadd, 1) := by decide +kernel
theorem dR_reached_43 : decode bR_reached 43 = .ok (.istore_n 3, 1) := by decide +kernel
theorem dR_reached_44 : decode bR_reached 44 = .ok (.iinc 4 1, 3) := by decide +kernel
theorem dR_reached_47 : decode bR_reached 47 = .ok (.goto (-42), 3) := by decide +kernel
theorem dR_reached_50 : decode bR_reached 50 = .ok (.iload_n 3, 1) := by decide +kernel
theorem dR_reached_51 : decode bR_reached 51 = .ok (.ireturn, 1) := by decide +kernel
theorem dR_send_0 : decode bR_send 0 = .ok (.aload_n 0, 1) := by decide +kernel
theorem dR_send_1 : decode bR_send 1 = .ok (.dup, 1) := by decide +kernel
theorem dR_send_2 : decode bR_send 2 = .ok (.getfield 69, 3) := by decide +kernel
theorem dR_send_5 : decode bR_send 5 = .ok (.iconst 1, 1) := by decide +kernel
theorem dR_send_6 : decode bR_send 6 = .ok (.iadd, 1) := by decide +kernel
theorem dR_send_7 : decode bR_send 7 = .ok (.putfield 69, 3) := by decide +kernel
theorem dR_send_10 : decode bR_send 10 = .ok (.aload_n 0, 1) := by decide +kernel
theorem dR_send_11 : decode bR_send 11 = .ok (.getfield 62, 3) := by decide +kernel
theorem dR_send_14 : decode bR_send 14 = .ok (.bipush 120, 2) := by decide +kernel
theorem dR_send_16 : decode bR_send 16 = .ok (.if_icmp .ne 20, 3) := by decide +kernel
theorem dR_send_19 : decode bR_send 19 = .ok (.aload_n 0, 1) := by decide +kernel
theorem dR_send_20 : decode bR_send 20 = .ok (.dup, 1) := by decide +kernel
theorem dR_send_21 : decode bR_send 21 = .ok (.getfield 72, 3) := by decide +kernel
theorem dR_send_24 : decode bR_send 24 = .ok (.iconst 1, 1) := by decide +kernel
theorem dR_send_25 : decode bR_send 25 = .ok (.iadd, 1) := by decide +kernel
theorem dR_send_26 : decode bR_send 26 = .ok (.putfield 72, 3) := by decide +kernel
theorem dR_send_29 : decode bR_send 29 = .ok (.aload_n 0, 1) := by decide +kernel
theorem dR_send_30 : decode bR_send 30 = .ok (.getfield 69, 3) := by decide +kernel
theorem dR_send_33 : decode bR_send 33 = .ok (.iconst 1, 1) := by decide +kernel
theorem dR_send_34 : decode bR_send 34 = .ok (.isub, 1) := by decide +kernel
theorem dR_send_35 : decode bR_send 35 = .ok (.ireturn, 1) := by decide +kernel
theorem dR_send_36 : decode bR_send 36 = .ok (.aload_n 0, 1) := by decide +kernel
theorem dR_send_37 : decode bR_send 37 = .ok (.getfield 26, 3) := by decide +kernel
theorem dR_send_40 : decode bR_send 40 = .ok (.aload_n 0, 1) := by decide +kernel
theorem dR_send_41 : decode bR_send 41 = .ok (.getfield 62, 3) := by decide +kernel
theorem dR_send_44 : decode bR_send 44 = .ok (.iaload, 1) := by decide +kernel
theorem dR_send_45 : decode bR_send 45 = .ok (.istore 6, 2) := by decide +kernel
theorem dR_send_47 : decode bR_send 47 = .ok (.aload_n 0, 1) := by decide +kernel
theorem dR_send_48 : decode bR_send 48 = .ok (.dup, 1) := by decide +kernel
theorem dR_send_49 : decode bR_send 49 = .ok (.getfield 62, 3) := by decide +kernel
theorem dR_send_52 : decode bR_send 52 = .ok (.iconst 1, 1) := by decide +kernel
theorem dR_send_53 : decode bR_send 53 = .ok (.iadd, 1) := by decide +kernel
theorem dR_send_54 : decode bR_send 54 = .ok (.putfield 62, 3) := by decide +kernel
theorem dR_send_57 : decode bR_send 57 = .ok (.aload_n 0, 1) := by decide +kernel
theorem dR_send_58 : decode bR_send 58 = .ok (.getfield 29, 3) := by decide +kernel
theorem dR_send_61 : decode bR_send 61 = .ok (.iload 6, 2) := by decide +kernel
theorem dR_send_63 : decode bR_send 63 = .ok (.aload_n 0, 1) := by decide +kernel
theorem dR_send_64 : decode bR_send 64 = .ok (.getfield 69, 3) := by decide +kernel
theorem dR_send_67 : decode bR_send 67 = .ok (.iconst 1, 1) := by decide +kernel
theorem dR_send_68 : decode bR_send 68 = .ok (.isub, 1) := by decide +kernel
theorem dR_send_69 : decode bR_send 69 = .ok (.iastore, 1) := by decide +kernel
theorem dR_send_70 : decode bR_send 70 = .ok (.aload_n 0, 1) := by decide +kernel
theorem dR_send_71 : decode bR_send 71 = .ok (.getfield 32, 3) := by decide +kernel
theorem dR_send_74 : decode bR_send 74 = .ok (.iload 6, 2) := by decide +kernel
theorem dR_send_76 : decode bR_send 76 = .ok (.iload_n 1, 1) := by decide +kernel
theorem dR_send_77 : decode bR_send 77 = .ok (.iastore, 1) := by decide +kernel
theorem dR_send_78 : decode bR_send 78 = .ok (.aload_n 0, 1) := by decide +kernel
theorem dR_send_79 : decode bR_send 79 = .ok (.getfield 35, 3) := by decide +kernel
theorem dR_send_82 : decode bR_send 82 = .ok (.iload 6, 2) := by decide +kernel
theorem dR_send_84 : decode bR_send 84 = .ok (.iload_n 2, 1) := by decide +kernel
theorem dR_send_85 : decode bR_send 85 = .ok (.iastore, 1) := by decide +kernel
theorem dR_send_86 : decode bR_send 86 = .ok (.aload_n 0, 1) := by decide +kernel
theorem dR_send_87 : decode bR_send 87 = .ok (.getfield 38, 3) := by decide +kernel
theorem dR_send_90 : decode bR_send 90 = .ok (.iload 6, 2) := by decide +kernel
theorem dR_send_92 : decode bR_send 92 = .ok (.iload_n 3, 1) := by decide +kernel
theorem dR_send_93 : decode bR_send 93 = .ok (.iastore, 1) := by decide +kernel
theorem dR_send_94 : decode bR_send 94 = .ok (.aload_n 0, 1) := by decide +kernel
theorem dR_send_95 : decode bR_send 95 = .ok (.getfield 41, 3) := by decide +kernel
theorem dR_send_98 : decode bR_send 98 = .ok (.iload 6, 2) := by decide +kernel
theorem dR_send_100 : decode bR_send 100 = .ok (.lload 4, 2) := by decide +kernel
theorem dR_send_102 : decode bR_send 102 = .ok (.lastore, 1) := by decide +kernel
theorem dR_send_103 : decode bR_send 103 = .ok (.iconst 0, 1) := by decide +kernel
theorem dR_send_104 : decode bR_send 104 = .ok (.istore 7, 2) := by decide +kernel
theorem dR_send_106 : decode bR_send 106 = .ok (.iload 7, 2) := by decide +kernel
theorem dR_send_108 : decode bR_send 108 = .ok (.iload_n 3, 1) := by decide +kernel
theorem dR_send_109 : decode bR_send 109 = .ok (.if_icmp .ge 30, 3) := by decide +kernel
theorem dR_send_112 : decode bR_send 112 = .ok (.aload_n 0, 1) := by decide +kernel
theorem dR_send_113 : decode bR_send 113 = .ok (.getfield 46, 3) := by decide +kernel
theorem dR_send_116 : decode bR_send 116 = .ok (.sipush 480, 3) := by decide +kernel
theorem dR_send_119 : decode bR_send 119 = .ok (.iload 6, 2) := by decide +kernel
theorem dR_send_121 : decode bR_send 121 = .ok (.imul, 1) := by decide +kernel
theorem dR_send_122 : decode bR_send 122 = .ok (.iload 7, 2) := by decide +kernel
theorem dR_send_124 : decode bR_send 124 = .ok (.iadd, 1) := by decide +kernel
theorem dR_send_125 : decode bR_send 125 = .ok (.aload_n 0, 1) := by decide +kernel
theorem dR_send_126 : decode bR_send 126 = .ok (.getfield 49, 3) := by decide +kernel
theorem dR_send_129 : decode bR_send 129 = .ok (.iload 7, 2) := by decide +kernel
theorem dR_send_131 : decode bR_send 131 = .ok (.iaload, 1) := by decide +kernel
theorem dR_send_132 : decode bR_send 132 = .ok (.iastore, 1) := by decide +kernel
theorem dR_send_133 : decode bR_send 133 = .ok (.iinc 7 1, 3) := by decide +kernel
theorem dR_send_136 : decode bR_send 136 = .ok (.goto (-30), 3) := by decide +kernel
theorem dR_send_139 : decode bR_send 139 = .ok (.aload_n 0, 1) := by decide +kernel
theorem dR_send_140 : decode bR_send 140 = .ok (.getfield 69, 3) := by decide +kernel
theorem dR_send_143 : decode bR_send 143 = .ok (.iconst 1, 1) := by decide +kernel
theorem dR_send_144 : decode bR_send 144 = .ok (.isub, 1) := by decide +kernel
theorem dR_send_145 : decode bR_send 145 = .ok (.ireturn, 1) := by decide +kernel
theorem dR_deliver_0 : decode bR_deliver 0 = .ok (.aload_n 0, 1) := by decide +kernel
theorem dR_deliver_1 : decode bR_deliver 1 = .ok (.aload_n 0, 1) := by decide +kernel
theorem dR_deliver_2 : decode bR_deliver 2 = .ok (.iload_n 1, 1) := by decide +kernel
theorem dR_deliver_3 : decode bR_deliver 3 = .ok (.invokevirtual 103, 3) := by decide +kernel
theorem dR_deliver_6 : decode bR_deliver 6 = .ok (.ifCond .eq 7, 3) := by decide +kernel
theorem dR_deliver_9 : decode bR_deliver 9 = .ok (.iconst 0, 1) := by decide +kernel
theorem dR_deliver_10 : decode bR_deliver 10 = .ok (.goto 4, 3) := by decide +kernel
theorem dR_deliver_13 : decode bR_deliver 13 = .ok (.iconst 1, 1) := by decide +kernel
theorem dR_deliver_14 : decode bR_deliver 14 = .ok (.putfield 59, 3) := by decide +kernel
theorem dR_deliver_17 : decode bR_deliver 17 = .ok (.aload_n 0, 1) := by decide +kernel
theorem dR_deliver_18 : decode bR_deliver 18 = .ok (.getfield 59, 3) := by decide +kernel
theorem dR_deliver_21 : decode bR_deliver 21 = .ok (.ifCond .le 5, 3) := by decide +kernel
theorem dR_deliver_24 : decode bR_deliver 24 = .ok (.iconst 0, 1) := by decide +kernel
theorem dR_deliver_25 : decode bR_deliver 25 = .ok (.ireturn, 1) := by decide +kernel
theorem dR_deliver_26 : decode bR_deliver 26 = .ok (.aload_n 0, 1) := by decide +kernel
theorem dR_deliver_27 : decode bR_deliver 27 = .ok (.getfield 26, 3) := by decide +kernel
theorem dR_deliver_30 : decode bR_deliver 30 = .ok (.iload_n 1, 1) := by decide +kernel
theorem dR_deliver_31 : decode bR_deliver 31 = .ok (.iaload, 1) := by decide +kernel
theorem dR_deliver_32 : decode bR_deliver 32 = .ok (.istore_n 2, 1) := by decide +kernel
theorem dR_deliver_33 : decode bR_deliver 33 = .ok (.aload_n 0, 1) := by decide +kernel
theorem dR_deliver_34 : decode bR_deliver 34 = .ok (.getfield 38, 3) := by decide +kernel
theorem dR_deliver_37 : decode bR_deliver 37 = .ok (.iload_n 2, 1) := by decide +kernel
theorem dR_deliver_38 : decode bR_deliver 38 = .ok (.iaload, 1) := by decide +kernel
theorem dR_deliver_39 : decode bR_deliver 39 = .ok (.istore_n 3, 1) := by decide +kernel
theorem dR_deliver_40 : decode bR_deliver 40 = .ok (.aload_n 0, 1) := by decide +kernel
theorem dR_deliver_41 : decode bR_deliver 41 = .ok (.getfield 35, 3) := by decide +kernel
theorem dR_deliver_44 : decode bR_deliver 44 = .ok (.iload_n 2, 1) := by decide +kernel
theorem dR_deliver_45 : decode bR_deliver 45 = .ok (.iaload, 1) := by decide +kernel
theorem dR_deliver_46 : decode bR_deliver 46 = .ok (.istore 4, 2) := by decide +kernel
theorem dR_deliver_48 : decode bR_deliver 48 = .ok (.aload_n 0, 1) := by decide +kernel
theorem dR_deliver_49 : decode bR_deliver 49 = .ok (.getfield 32, 3) := by decide +kernel
theorem dR_deliver_52 : decode bR_deliver 52 = .ok (.iload_n 2, 1) := by decide +kernel
theorem dR_deliver_53 : decode bR_deliver 53 = .ok (.iaload, 1) := by decide +kernel
theorem dR_deliver_54 : decode bR_deliver 54 = .ok (.istore 5, 2) := by decide +kernel
theorem dR_deliver_56 : decode bR_deliver 56 = .ok (.aload_n 0, 1) := by decide +kernel
theorem dR_deliver_57 : decode bR_deliver 57 = .ok (.getfield 41, 3) := by decide +kernel
theorem dR_deliver_60 : decode bR_deliver 60 = .ok (.iload_n 2, 1) := by decide +kernel
theorem dR_deliver_61 : decode bR_deliver 61 = .ok (.laload, 1) := by decide +kernel
theorem dR_deliver_62 : decode bR_deliver 62 = .ok (.lstore 6, 2) := by decide +kernel
theorem dR_deliver_64 : decode bR_deliver 64 = .ok (.iconst 0, 1) := by decide +kernel
theorem dR_deliver_65 : decode bR_deliver 65 = .ok (.istore 8, 2) := by decide +kernel
theorem dR_deliver_67 : decode bR_deliver 67 = .ok (.iload 8, 2) := by decide +kernel
theorem dR_deliver_69 : decode bR_deliver 69 = .ok (.iload_n 3, 1) := by decide +kernel
theorem dR_deliver_70 : decode bR_deliver 70 = .ok (.if_icmp .ge 29, 3) := by decide +kernel
theorem dR_deliver_73 : decode bR_deliver 73 = .ok (.aload_n 0, 1) := by decide +kernel
theorem dR_deliver_74 : decode bR_deliver 74 = .ok (.getfield 49, 3) := by decide +kernel
theorem dR_deliver_77 : decode bR_deliver 77 = .ok (.iload 8, 2) := by decide +kernel
theorem dR_deliver_79 : decode bR_deliver 79 = .ok (.aload_n 0, 1) := by decide +kernel
theorem dR_deliver_80 : decode bR_deliver 80 = .ok (.getfield 46, 3) := by decide +kernel
theorem dR_deliver_83 : decode bR_deliver 83 = .ok (.sipush 480, 3) := by decide +kernel
theorem dR_deliver_86 : decode bR_deliver 86 = .ok (.iload_n 2, 1) := by decide +kernel
theorem dR_deliver_87 : decode bR_deliver 87 = .ok (.imul, 1) := by decide +kernel
theorem dR_deliver_88 : decode bR_deliver 88 = .ok (.iload 8, 2) := by decide +kernel
theorem dR_deliver_90 : decode bR_deliver 90 = .ok (.iadd, 1) := by decide +kernel
theorem dR_deliver_91 : decode bR_deliver 91 = .ok (.iaload, 1) := by decide +kernel
theorem dR_deliver_92 : decode bR_deliver 92 = .ok (.iastore, 1) := by decide +kernel
theorem dR_deliver_93 : decode bR_deliver 93 = .ok (.iinc 8 1, 3) := by decide +kernel
theorem dR_deliver_96 : decode bR_deliver 96 = .ok (.goto (-29), 3) := by decide +kernel
theorem dR_deliver_99 : decode bR_deliver 99 = .ok (.aload_n 0, 1) := by decide +kernel
theorem dR_deliver_100 : decode bR_deliver 100 = .ok (.iload_n 1, 1) := by decide +kernel
theorem dR_deliver_101 : decode bR_deliver 101 = .ok (.invokevirtual 106, 3) := by decide +kernel
theorem dR_deliver_104 : decode bR_deliver 104 = .ok (.aload_n 0, 1) := by decide +kernel
theorem dR_deliver_105 : decode bR_deliver 105 = .ok (.getfield 7, 3) := by decide +kernel
theorem dR_deliver_108 : decode bR_deliver 108 = .ok (.iload 4, 2) := by decide +kernel
theorem dR_deliver_110 : decode bR_deliver 110 = .ok (.baload, 1) := by decide +kernel
theorem dR_deliver_111 : decode bR_deliver 111 = .ok (.ifCond .eq 15, 3) := by decide +kernel
theorem dR_deliver_114 : decode bR_deliver 114 = .ok (.aload_n 0, 1) := by decide +kernel
theorem dR_deliver_115 : decode bR_deliver 115 = .ok (.dup, 1) := by decide +kernel
theorem dR_deliver_116 : decode bR_deliver 116 = .ok (.getfield 110, 3) := by decide +kernel
theorem dR_deliver_119 : decode bR_deliver 119 = .ok (.iconst 1, 1) := by decide +kernel
theorem dR_deliver_120 : decode bR_deliver 120 = .ok (.iadd, 1) := by decide +kernel
theorem dR_deliver_121 : decode bR_deliver 121 = .ok (.putfield 110, 3) := by decide +kernel
theorem dR_deliver_124 : decode bR_deliver 124 = .ok (.iconst 0, 1) := by decide +kernel
theorem dR_deliver_125 : decode bR_deliver 125 = .ok (.ireturn, 1) := by decide +kernel
theorem dR_deliver_126 : decode bR_deliver 126 = .ok (.iload_n 3, 1) := by decide +kernel
theorem dR_deliver_127 : decode bR_deliver 127 = .ok (.ifCond .ge 16, 3) := by decide +kernel
theorem dR_deliver_130 : decode bR_deliver 130 = .ok (.aload_n 0, 1) := by decide +kernel
theorem dR_deliver_131 : decode bR_deliver 131 = .ok (.iload 4, 2) := by decide +kernel
theorem dR_deliver_133 : decode bR_deliver 133 = .ok (.iload 5, 2) := by decide +kernel
theorem dR_deliver_135 : decode bR_deliver 135 = .ok (.lload 6, 2) := by decide +kernel
theorem dR_deliver_137 : decode bR_deliver 137 = .ok (.invokevirtual 113, 3) := by decide +kernel
theorem dR_deliver_140 : decode bR_deliver 140 = .ok (.goto 10, 3) := by decide +kernel
theorem dR_deliver_143 : decode bR_deliver 143 = .ok (.aload_n 0, 1) := by decide +kernel
theorem dR_deliver_144 : decode bR_deliver 144 = .ok (.iload 4, 2) := by decide +kernel
theorem dR_deliver_146 : decode bR_deliver 146 = .ok (.iload_n 3, 1) := by decide +kernel
theorem dR_deliver_147 : decode bR_deliver 147 = .ok (.invokevirtual 117, 3) := by decide +kernel
theorem dR_deliver_150 : decode bR_deliver 150 = .ok (.ireturn, 1) := by decide +kernel
theorem dR_isMessage_0 : decode bR_isMessage 0 = .ok (.iload_n 1, 1) := by decide +kernel
theorem dR_isMessage_1 : decode bR_isMessage 1 = .ok (.ifCond .lt 15, 3) := by decide +kernel
theorem dR_isMessage_4 : decode bR_isMessage 4 = .ok (.iload_n 1, 1) := by decide +kernel
theorem dR_isMessage_5 : decode bR_isMessage 5 = .ok (.aload_n 0, 1) := by decide +kernel
theorem dR_isMessage_6 : decode bR_isMessage 6 = .ok (.getfield 62, 3) := by decide +kernel
theorem dR_isMessage_9 : decode bR_isMessage 9 = .ok (.if_icmp .ge 7, 3) := by decide +kernel
theorem dR_isMessage_12 : decode bR_isMessage 12 = .ok (.iconst 1, 1) := by decide +kernel
theorem dR_isMessage_13 : decode bR_isMessage 13 = .ok (.goto 4, 3) := by decide +kernel
theorem dR_isMessage_16 : decode bR_isMessage 16 = .ok (.iconst 0, 1) := by decide +kernel
theorem dR_isMessage_17 : decode bR_isMessage 17 = .ok (.ireturn, 1) := by decide +kernel
theorem dR_remove_0 : decode bR_remove 0 = .ok (.aload_n 0, 1) := by decide +kernel
theorem dR_remove_1 : decode bR_remove 1 = .ok (.getfield 26, 3) := by decide +kernel
theorem dR_remove_4 : decode bR_remove 4 = .ok (.iload_n 1, 1) := by decide +kernel
theorem dR_remove_5 : decode bR_remove 5 = .ok (.iaload, 1) := by decide +kernel
theorem dR_remove_6 : decode bR_remove 6 = .ok (.istore_n 2, 1) := by decide +kernel
theorem dR_remove_7 : decode bR_remove 7 = .ok (.iload_n 1, 1) := by decide +kernel
theorem dR_remove_8 : decode bR_remove 8 = .ok (.istore_n 3, 1) := by decide +kernel
theorem dR_remove_9 : decode bR_remove 9 = .ok (.iload_n 3, 1) := by decide +kernel
theorem dR_remove_10 : decode bR_remove 10 = .ok (.aload_n 0, 1) := by decide +kernel
theorem dR_remove_11 : decode bR_remove 11 = .ok (.getfield 62, 3) := by decide +kernel
theorem dR_remove_14 : decode bR_remove 14 = .ok (.iconst 1, 1) := by decide +kernel
theorem dR_remove_15 : decode bR_remove 15 = .ok (.isub, 1) := by decide +kernel
theorem dR_remove_16 : decode bR_remove 16 = .ok (.if_icmp .ge 23, 3) := by decide +kernel
theorem dR_remove_19 : decode bR_remove 19 = .ok (.aload_n 0, 1) := by decide +kernel
theorem dR_remove_20 : decode bR_remove 20 = .ok (.getfield 26, 3) := by decide +kernel
theorem dR_remove_23 : decode bR_remove 23 = .ok (.iload_n 3, 1) := by decide +kernel
theorem dR_remove_24 : decode bR_remove 24 = .ok (.aload_n 0, 1) := by decide +kernel
theorem dR_remove_25 : decode bR_remove 25 = .ok (.getfield 26, 3) := by decide +kernel
theorem dR_remove_28 : decode bR_remove 28 = .ok (.iload_n 3, 1) := by decide +kernel
theorem dR_remove_29 : decode bR_remove 29 = .ok (.iconst 1, 1) := by decide +kernel
theorem dR_remove_30 : decode bR_remove 30 = .ok (.iadd, 1) := by decide +kernel
theorem dR_remove_31 : decode bR_remove 31 = .ok (.iaload, 1) := by decide +kernel
theorem dR_remove_32 : decode bR_remove 32 = .ok (.iastore, 1) := by decide +kernel
theorem dR_remove_33 : decode bR_remove 33 = .ok (.iinc 3 1, 3) := by decide +kernel
theorem dR_remove_36 : decode bR_remove 36 = .ok (.goto (-27), 3) := by decide +kernel
theorem dR_remove_39 : decode bR_remove 39 = .ok (.aload_n 0, 1) := by decide +kernel
theorem dR_remove_40 : decode bR_remove 40 = .ok (.dup, 1) := by decide +kernel
theorem dR_remove_41 : decode bR_remove 41 = .ok (.getfield 62, 3) := by decide +kernel
theorem dR_remove_44 : decode bR_remove 44 = .ok (.iconst 1, 1) := by decide +kernel
theorem dR_remove_45 : decode bR_remove 45 = .ok (.isub, 1) := by decide +kernel
theorem dR_remove_46 : decode bR_remove 46 = .ok (.putfield 62, 3) := by decide +kernel
theorem dR_remove_49 : decode bR_remove 49 = .ok (.aload_n 0, 1) := by decide +kernel
theorem dR_remove_50 : decode bR_remove 50 = .ok (.getfield 26, 3) := by decide +kernel
theorem dR_remove_53 : decode bR_remove 53 = .ok (.aload_n 0, 1) := by decide +kernel
theorem dR_remove_54 : decode bR_remove 54 = .ok (.getfield 62, 3) := by decide +kernel
theorem dR_remove_57 : decode bR_remove 57 = .ok (.iload_n 2, 1) := by decide +kernel
theorem dR_remove_58 : decode bR_remove 58 = .ok (.iastore, 1) := by decide +kernel
theorem dR_remove_59 : decode bR_remove 59 = .ok (.return_, 1) := by decide +kernel
theorem dR_answer_0 : decode bR_answer 0 = .ok (.iconst 0, 1) := by decide +kernel
theorem dR_answer_1 : decode bR_answer 1 = .ok (.istore 5, 2) := by decide +kernel
theorem dR_answer_3 : decode bR_answer 3 = .ok (.iconst 3, 1) := by decide +kernel
theorem dR_answer_4 : decode bR_answer 4 = .ok (.istore 6, 2) := by decide +kernel
theorem dR_answer_6 : decode bR_answer 6 = .ok (.aload_n 0, 1) := by decide +kernel
theorem dR_answer_7 : decode bR_answer 7 = .ok (.iconst 0, 1) := by decide +kernel
theorem dR_answer_8 : decode bR_answer 8 = .ok (.putfield 95, 3) := by decide +kernel
theorem dR_answer_11 : decode bR_answer 11 = .ok (.iconst 0, 1) := by decide +kernel
theorem dR_answer_12 : decode bR_answer 12 = .ok (.istore 7, 2) := by decide +kernel
theorem dR_answer_14 : decode bR_answer 14 = .ok (.iload 7, 2) := by decide +kernel
theorem dR_answer_16 : decode bR_answer 16 = .ok (.aload_n 0, 1) := by decide +kernel
theorem dR_answer_17 : decode bR_answer 17 = .ok (.getfield 23, 3) := by decide +kernel
theorem dR_answer_20 : decode bR_answer 20 = .ok (.iload_n 1, 1) := by decide +kernel
theorem dR_answer_21 : decode bR_answer 21 = .ok (.iaload, 1) := by decide +kernel
theorem dR_answer_22 : decode bR_answer 22 = .ok (.if_icmp .ge 118, 3) := by decide +kernel
theorem dR_answer_25 : decode bR_answer 25 = .ok (.aload_n 0, 1) := by decide +kernel
theorem dR_answer_26 : decode bR_answer 26 = .ok (.getfield 20, 3) := by decide +kernel
theorem dR_answer_29 : decode bR_answer 29 = .ok (.sipush 480, 3) := by decide +kernel
theorem dR_answer_32 : decode bR_answer 32 = .ok (.iload_n 1, 1) := by decide +kernel
theorem dR_answer_33 : decode bR_answer 33 = .ok (.imul, 1) := by decide +kernel
theorem dR_answer_34 : decode bR_answer 34 = .ok (.iload 7, 2) := by decide +kernel
theorem dR_answer_36 : decode bR_answer 36 = .ok (.iadd, 1) := by decide +kernel
theorem dR_answer_37 : decode bR_answer 37 = .ok (.iaload, 1) := by decide +kernel
theorem dR_answer_38 : decode bR_answer 38 = .ok (.istore 8, 2) := by decide +kernel
theorem dR_answer_40 : decode bR_answer 40 = .ok (.iload 8, 2) := by decide +kernel
theorem dR_answer_42 : decode bR_answer 42 = .ok (.bipush 8, 2) := by decide +kernel
theorem dR_answer_44 : decode bR_answer 44 = .ok (.idiv, 1) := by decide +kernel
theorem dR_answer_45 : decode bR_answer 45 = .ok (.lload_n 3, 1) := by decide +kernel
theorem dR_answer_46 : decode bR_answer 46 = .ok (.bipush 8, 2) := by decide +kernel
theorem dR_answer_48 : decode bR_answer 48 = .ok (.iload 8, 2) := by decide +kernel
theorem dR_answer_50 : decode bR_answer 50 = .ok (.bipush 8, 2) := by decide +kernel
theorem dR_answer_52 : decode bR_answer 52 = .ok (.irem, 1) := by decide +kernel
theorem dR_answer_53 : decode bR_answer 53 = .ok (.imul, 1) := by decide +kernel
theorem dR_answer_54 : decode bR_answer 54 = .ok (.lshr, 1) := by decide +kernel
theorem dR_answer_55 : decode bR_answer 55 = .ok (.ldc2_w 98, 3) := by decide +kernel
theorem dR_answer_58 : decode bR_answer 58 = .ok (.land, 1) := by decide +kernel
theorem dR_answer_59 : decode bR_answer 59 = .ok (.l2i, 1) := by decide +kernel
theorem dR_answer_60 : decode bR_answer 60 = .ok (.if_icmp .le 74, 3) := by decide +kernel
theorem dR_answer_63 : decode bR_answer 63 = .ok (.iload 5, 2) := by decide +kernel
theorem dR_answer_65 : decode bR_answer 65 = .ok (.ifCond .le 46, 3) := by decide +kernel
theorem dR_answer_68 : decode bR_answer 68 = .ok (.iload 6, 2) := by decide +kernel
theorem dR_answer_70 : decode bR_answer 70 = .ok (.aload_n 0, 1) := by decide +kernel
theorem dR_answer_71 : decode bR_answer 71 = .ok (.iload 8, 2) := by decide +kernel
theorem dR_answer_73 : decode bR_answer 73 = .ok (.invokevirtual 75, 3) := by decide +kernel
theorem dR_answer_76 : decode bR_answer 76 = .ok (.iadd, 1) := by decide +kernel
theorem dR_answer_77 : decode bR_answer 77 = .ok (.aload_n 0, 1) := by decide +kernel
theorem dR_answer_78 : decode bR_answer 78 = .ok (.getfield 56, 3) := by decide +kernel
theorem dR_answer_81 : decode bR_answer 81 = .ok (.if_icmp .le 30, 3) := by decide +kernel
theorem dR_answer_84 : decode bR_answer 84 = .ok (.aload_n 0, 1) := by decide +kernel
theorem dR_answer_85 : decode bR_answer 85 = .ok (.iload_n 1, 1) := by decide +kernel
theorem dR_answer_86 : decode bR_answer 86 = .ok (.iload_n 2, 1) := by decide +kernel
theorem dR_answer_87 : decode bR_answer 87 = .ok (.iload 5, 2) := by decide +kernel
theorem dR_answer_89 : decode bR_answer 89 = .ok (.lconst 0, 1) := by decide +kernel
theorem dR_answer_90 : decode bR_answer 90 = .ok (.invokevirtual 91, 3) := by decide +kernel
theorem dR_answer_93 : decode bR_answer 93 = .ok (.istore 9, 2) := by decide +kernel
theorem dR_answer_95 : decode bR_answer 95 = .ok (.aload_n 0, 1) := by decide +kernel
theorem dR_answer_96 : decode bR_answer 96 = .ok (.dup, 1) := by decide +kernel
theorem dR_answer_97 : decode bR_answer 97 = .ok (.getfield 95, 3) := by decide +kernel
theorem dR_answer_100 : decode bR_answer 100 = .ok (.iconst 1, 1) := by decide +kernel
theorem dR_answer_101 : decode bR_answer 101 = .ok (.iadd, 1) := by decide +kernel
theorem dR_answer_102 : decode bR_answer 102 = .ok (.putfield 95, 3) := by decide +kernel
theorem dR_answer_105 : decode bR_answer 105 = .ok (.iconst 0, 1) := by decide +kernel
theorem dR_answer_106 : decode bR_answer 106 = .ok (.istore 5, 2) := by decide +kernel
theorem dR_answer_108 : decode bR_answer 108 = .ok (.iconst 3, 1) := by decide +kernel
theorem dR_answer_109 : decode bR_answer 109 = .ok (.istore 6, 2) := by decide +kernel
theorem dR_answer_111 : decode bR_answer 111 = .ok (.aload_n 0, 1) := by decide +kernel
theorem dR_answer_112 : decode bR_answer 112 = .ok (.getfield 49, 3) := by decide +kernel
theorem dR_answer_115 : decode bR_answer 115 = .ok (.iload 5, 2) := by decide +kernel
theorem dR_answer_117 : decode bR_answer 117 = .ok (.iload 8, 2) := by decide +kernel
theorem dR_answer_119 : decode bR_answer 119 = .ok (.iastore, 1) := by decide +kernel
theorem dR_answer_120 : decode bR_answer 120 = .ok (.iinc 5 1, 3) := by decide +kernel
theorem dR_answer_123 : decode bR_answer 123 = .ok (.iload 6, 2) := by decide +kernel
theorem dR_answer_125 : decode bR_answer 125 = .ok (.aload_n 0, 1) := by decide +kernel
theorem dR_answer_126 : decode bR_answer 126 = .ok (.iload 8, 2) := by decide +kernel
theorem dR_answer_128 : decode bR_answer 128 = .ok (.invokevirtual 75, 3) := by decide +kernel
theorem dR_answer_131 : decode bR_answer 131 = .ok (.iadd, 1) := by decide +kernel
theorem dR_answer_132 : decode bR_answer 132 = .ok (.istore 6, 2) := by decide +kernel
theorem dR_answer_134 : decode bR_answer 134 = .ok (.iinc 7 1, 3) := by decide +kernel
theorem dR_answer_137 : decode bR_answer 137 = .ok (.goto (-123), 3) := by decide +kernel
theorem dR_answer_140 : decode bR_answer 140 = .ok (.iload 5, 2) := by decide +kernel
theorem dR_answer_142 : decode bR_answer 142 = .ok (.ifCond .le 24, 3) := by decide +kernel
theorem dR_answer_145 : decode bR_answer 145 = .ok (.aload_n 0, 1) := by decide +kernel
theorem dR_answer_146 : decode bR_answer 146 = .ok (.iload_n 1, 1) := by decide +kernel
theorem dR_answer_147 : decode bR_answer 147 = .ok (.iload_n 2, 1) := by decide +kernel
theorem dR_answer_148 : decode bR_answer 148 = .ok (.iload 5, 2) := by decide +kernel
theorem dR_answer_150 : decode bR_answer 150 = .ok (.lconst 0, 1) := by decide +kernel
theorem dR_answer_151 : decode bR_answer 151 = .ok (.invokevirtual 91, 3) := by decide +kernel
theorem dR_answer_154 : decode bR_answer 154 = .ok (.istore 7, 2) := by decide +kernel
theorem dR_answer_156 : decode bR_answer 156 = .ok (.aload_n 0, 1) := by decide +kernel
theorem dR_answer_157 : decode bR_answer 157 = .ok (.dup, 1) := by decide +kernel
theorem dR_answer_158 : decode bR_answer 158 = .ok (.getfield 95, 3) := by decide +kernel
theorem dR_answer_161 : decode bR_answer 161 = .ok (.iconst 1, 1) := by decide +kernel
theorem dR_answer_162 : decode bR_answer 162 = .ok (.iadd, 1) := by decide +kernel
theorem dR_answer_163 : decode bR_answer 163 = .ok (.putfield 95, 3) := by decide +kernel
theorem dR_answer_166 : decode bR_answer 166 = .ok (.aload_n 0, 1) := by decide +kernel
theorem dR_answer_167 : decode bR_answer 167 = .ok (.getfield 95, 3) := by decide +kernel
theorem dR_answer_170 : decode bR_answer 170 = .ok (.ireturn, 1) := by decide +kernel
theorem dR_weightOf_0 : decode bR_weightOf 0 = .ok (.aload_n 0, 1) := by decide +kernel
theorem dR_weightOf_1 : decode bR_weightOf 1 = .ok (.getfield 17, 3) := by decide +kernel
theorem dR_weightOf_4 : decode bR_weightOf 4 = .ok (.bipush 61, 2) := by decide +kernel
theorem dR_weightOf_6 : decode bR_weightOf 6 = .ok (.iload_n 1, 1) := by decide +kernel
theorem dR_weightOf_7 : decode bR_weightOf 7 = .ok (.bipush 8, 2) := by decide +kernel
theorem dR_weightOf_9 : decode bR_weightOf 9 = .ok (.irem, 1) := by decide +kernel
theorem dR_weightOf_10 : decode bR_weightOf 10 = .ok (.imul, 1) := by decide +kernel
theorem dR_weightOf_11 : decode bR_weightOf 11 = .ok (.iload_n 1, 1) := by decide +kernel
theorem dR_weightOf_12 : decode bR_weightOf 12 = .ok (.bipush 8, 2) := by decide +kernel
theorem dR_weightOf_14 : decode bR_weightOf 14 = .ok (.idiv, 1) := by decide +kernel
theorem dR_weightOf_15 : decode bR_weightOf 15 = .ok (.iadd, 1) := by decide +kernel
theorem dR_weightOf_16 : decode bR_weightOf 16 = .ok (.iconst 1, 1) := by decide +kernel
theorem dR_weightOf_17 : decode bR_weightOf 17 = .ok (.isub, 1) := by decide +kernel
theorem dR_weightOf_18 : decode bR_weightOf 18 = .ok (.iaload, 1) := by decide +kernel
theorem dR_weightOf_19 : decode bR_weightOf 19 = .ok (.ireturn, 1) := by decide +kernel
theorem dR_take_0 : decode bR_take 0 = .ok (.iconst 0, 1) := by decide +kernel
theorem dR_take_1 : decode bR_take 1 = .ok (.istore_n 3, 1) := by decide +kernel
theorem dR_take_2 : decode bR_take 2 = .ok (.iconst 0, 1) := by decide +kernel
theorem dR_take_3 : decode bR_take 3 = .ok (.istore 4, 2) := by decide +kernel
theorem dR_take_5 : decode bR_take 5 = .ok (.iload 4, 2) := by decide +kernel
theorem dR_take_7 : decode bR_take 7 = .ok (.iload_n 2, 1) := by decide +kernel
theorem dR_take_8 : decode bR_take 8 = .ok (.if_icmp .ge 67, 3) := by decide +kernel
theorem dR_take_11 : decode bR_take 11 = .ok (.aload_n 0, 1) := by decide +kernel
theorem dR_take_12 : decode bR_take 12 = .ok (.getfield 49, 3) := by decide +kernel
theorem dR_take_15 : decode bR_take 15 = .ok (.iload 4, 2) := by decide +kernel
theorem dR_take_17 : decode bR_take 17 = .ok (.iaload, 1) := by decide +kernel
theorem dR_take_18 : decode bR_take 18 = .ok (.bipush 8, 2) := by decide +kernel
theorem dR_take_20 : decode bR_take 20 = .ok (.idiv, 1) := by decide +kernel
theorem dR_take_21 : decode bR_take 21 = .ok (.aload_n 0, 1) := by decide +kernel
theorem dR_take_22 : decode bR_take 22 = .ok (.iload_n 1, 1) := by decide +kernel
theorem dR_take_23 : decode bR_take 23 = .ok (.aload_n 0, 1) := by decide +kernel
theorem dR_take_24 : decode bR_take 24 = .ok (.getfield 49, 3) := by decide +kernel
theorem dR_take_27 : decode bR_take 27 = .ok (.iload 4, 2) := by decide +kernel
theorem dR_take_29 : decode bR_take 29 = .ok (.iaload, 1) := by decide +kernel
theorem dR_take_30 : decode bR_take 30 = .ok (.bipush 8, 2) := by decide +kernel
theorem dR_take_32 : decode bR_take 32 = .ok (.irem, 1) := by decide +kernel
theorem dR_take_33 : decode bR_take 33 = .ok (.invokevirtual 65, 3) := by decide +kernel
theorem dR_take_36 : decode bR_take 36 = .ok (.iconst 1, 1) := by decide +kernel
theorem dR_take_37 : decode bR_take 37 = .ok (.iadd, 1) := by decide +kernel
theorem dR_take_38 : decode bR_take 38 = .ok (.if_icmp .ne 21, 3) := by decide +kernel
theorem dR_take_41 : decode bR_take 41 = .ok (.aload_n 0, 1) := by decide +kernel
theorem dR_take_42 : decode bR_take 42 = .ok (.iload_n 1, 1) := by decide +kernel
theorem dR_take_43 : decode bR_take 43 = .ok (.aload_n 0, 1) := by decide +kernel
theorem dR_take_44 : decode bR_take 44 = .ok (.getfield 49, 3) := by decide +kernel
theorem dR_take_47 : decode bR_take 47 = .ok (.iload 4, 2) := by decide +kernel
theorem dR_take_49 : decode bR_take 49 = .ok (.iaload, 1) := by decide +kernel
theorem dR_take_50 : decode bR_take 50 = .ok (.invokevirtual 83, 3) := by decide +kernel
theorem dR_take_53 : decode bR_take 53 = .ok (.iinc 3 1, 3) := by decide +kernel
theorem dR_take_56 : decode bR_take 56 = .ok (.goto 13, 3) := by decide +kernel
theorem dR_take_59 : decode bR_take 59 = .ok (.aload_n 0, 1) := by decide +kernel
theorem dR_take_60 : decode bR_take 60 = .ok (.dup, 1) := by decide +kernel
theorem dR_take_61 : decode bR_take 61 = .ok (.getfield 100, 3) := by decide +kernel
theorem dR_take_64 : decode bR_take 64 = .ok (.iconst 1, 1) := by decide +kernel
theorem dR_take_65 : decode bR_take 65 = .ok (.iadd, 1) := by decide +kernel
theorem dR_take_66 : decode bR_take 66 = .ok (.putfield 100, 3) := by decide +kernel
theorem dR_take_69 : decode bR_take 69 = .ok (.iinc 4 1, 3) := by decide +kernel
theorem dR_take_72 : decode bR_take 72 = .ok (.goto (-67), 3) := by decide +kernel
theorem dR_take_75 : decode bR_take 75 = .ok (.iload_n 3, 1) := by decide +kernel
theorem dR_take_76 : decode bR_take 76 = .ok (.ireturn, 1) := by decide +kernel
theorem dR_lose_0 : decode bR_lose 0 = .ok (.aload_n 0, 1) := by decide +kernel
theorem dR_lose_1 : decode bR_lose 1 = .ok (.iconst 0, 1) := by decide +kernel
theorem dR_lose_2 : decode bR_lose 2 = .ok (.putfield 59, 3) := by decide +kernel
theorem dR_lose_5 : decode bR_lose 5 = .ok (.aload_n 0, 1) := by decide +kernel
theorem dR_lose_6 : decode bR_lose 6 = .ok (.iload_n 1, 1) := by decide +kernel
theorem dR_lose_7 : decode bR_lose 7 = .ok (.invokevirtual 103, 3) := by decide +kernel
theorem dR_lose_10 : decode bR_lose 10 = .ok (.ifCond .ne 5, 3) := by decide +kernel
theorem dR_lose_13 : decode bR_lose 13 = .ok (.iconst 0, 1) := by decide +kernel
theorem dR_lose_14 : decode bR_lose 14 = .ok (.ireturn, 1) := by decide +kernel
theorem dR_lose_15 : decode bR_lose 15 = .ok (.aload_n 0, 1) := by decide +kernel
theorem dR_lose_16 : decode bR_lose 16 = .ok (.iload_n 1, 1) := by decide +kernel
theorem dR_lose_17 : decode bR_lose 17 = .ok (.invokevirtual 106, 3) := by decide +kernel
theorem dR_lose_20 : decode bR_lose 20 = .ok (.aload_n 0, 1) := by decide +kernel
theorem dR_lose_21 : decode bR_lose 21 = .ok (.dup, 1) := by decide +kernel
theorem dR_lose_22 : decode bR_lose 22 = .ok (.getfield 72, 3) := by decide +kernel
theorem dR_lose_25 : decode bR_lose 25 = .ok (.iconst 1, 1) := by decide +kernel
theorem dR_lose_26 : decode bR_lose 26 = .ok (.iadd, 1) := by decide +kernel
theorem dR_lose_27 : decode bR_lose 27 = .ok (.putfield 72, 3) := by decide +kernel
theorem dR_lose_30 : decode bR_lose 30 = .ok (.iconst 1, 1) := by decide +kernel
theorem dR_lose_31 : decode bR_lose 31 = .ok (.ireturn, 1) := by decide +kernel
theorem dR_twice_0 : decode bR_twice 0 = .ok (.aload_n 0, 1) := by decide +kernel
theorem dR_twice_1 : decode bR_twice 1 = .ok (.aload_n 0, 1) := by decide +kernel
theorem dR_twice_2 : decode bR_twice 2 = .ok (.iload_n 1, 1) := by decide +kernel
theorem dR_twice_3 : decode bR_twice 3 = .ok (.invokevirtual 103, 3) := by decide +kernel
theorem dR_twice_6 : decode bR_twice 6 = .ok (.ifCond .eq 7, 3) := by decide +kernel
theorem dR_twice_9 : decode bR_twice 9 = .ok (.iconst 0, 1) := by decide +kernel
theorem dR_twice_10 : decode bR_twice 10 = .ok (.goto 4, 3) := by decide +kernel
theorem dR_twice_13 : decode bR_twice 13 = .ok (.iconst 1, 1) := by decide +kernel
theorem dR_twice_14 : decode bR_twice 14 = .ok (.putfield 59, 3) := by decide +kernel
theorem dR_twice_17 : decode bR_twice 17 = .ok (.aload_n 0, 1) := by decide +kernel
theorem dR_twice_18 : decode bR_twice 18 = .ok (.getfield 59, 3) := by decide +kernel
theorem dR_twice_21 : decode bR_twice 21 = .ok (.ifCond .le 5, 3) := by decide +kernel
theorem dR_twice_24 : decode bR_twice 24 = .ok (.iconst 0, 1) := by decide +kernel
theorem dR_twice_25 : decode bR_twice 25 = .ok (.ireturn, 1) := by decide +kernel
theorem dR_twice_26 : decode bR_twice 26 = .ok (.aload_n 0, 1) := by decide +kernel
theorem dR_twice_27 : decode bR_twice 27 = .ok (.getfield 26, 3) := by decide +kernel
theorem dR_twice_30 : decode bR_twice 30 = .ok (.iload_n 1, 1) := by decide +kernel
theorem dR_twice_31 : decode bR_twice 31 = .ok (.iaload, 1) := by decide +kernel
theorem dR_twice_32 : decode bR_twice 32 = .ok (.istore_n 2, 1) := by decide +kernel
theorem dR_twice_33 : decode bR_twice 33 = .ok (.iconst 0, 1) := by decide +kernel
theorem dR_twice_34 : decode bR_twice 34 = .ok (.istore_n 3, 1) := by decide +kernel
theorem dR_twice_35 : decode bR_twice 35 = .ok (.iload_n 3, 1) := by decide +kernel
theorem dR_twice_36 : decode bR_twice 36 = .ok (.aload_n 0, 1) := by decide +kernel
theorem dR_twice_37 : decode bR_twice 37 = .ok (.getfield 38, 3) := by decide +kernel
theorem dR_twice_40 : decode bR_twice 40 = .ok (.iload_n 2, 1) := by decide +kernel
theorem dR_twice_41 : decode bR_twice 41 = .ok (.iaload, 1) := by decide +kernel
theorem dR_twice_42 : decode bR_twice 42 = .ok (.if_icmp .ge 27, 3) := by decide +kernel
theorem dR_twice_45 : decode bR_twice 45 = .ok (.aload_n 0, 1) := by decide +kernel
theorem dR_twice_46 : decode bR_twice 46 = .ok (.getfield 49, 3) := by decide +kernel
theorem dR_twice_49 : decode bR_twice 49 = .ok (.iload_n 3, 1) := by decide +kernel
theorem dR_twice_50 : decode bR_twice 50 = .ok (.aload_n 0, 1) := by decide +kernel
theorem dR_twice_51 : decode bR_twice 51 = .ok (.getfield 46, 3) := by decide +kernel
theorem dR_twice_54 : decode bR_twice 54 = .ok (.sipush 480, 3) := by decide +kernel
theorem dR_twice_57 : decode bR_twice 57 = .ok (.iload_n 2, 1) := by decide +kernel
theorem dR_twice_58 : decode bR_twice 58 = .ok (.imul, 1) := by decide +kernel
theorem dR_twice_59 : decode bR_twice 59 = .ok (.iload_n 3, 1) := by decide +kernel
theorem dR_twice_60 : decode bR_twice 60 = .ok (.iadd, 1) := by decide +kernel
theorem dR_twice_61 : decode bR_twice 61 = .ok (.iaload, 1) := by decide +kernel
theorem dR_twice_62 : decode bR_twice 62 = .ok (.iastore, 1) := by decide +kernel
theorem dR_twice_63 : decode bR_twice 63 = .ok (.iinc 3 1, 3) := by decide +kernel
theorem dR_twice_66 : decode bR_twice 66 = .ok (.goto (-31), 3) := by decide +kernel
theorem dR_twice_69 : decode bR_twice 69 = .ok (.aload_n 0, 1) := by decide +kernel
theorem dR_twice_70 : decode bR_twice 70 = .ok (.aload_n 0, 1) := by decide +kernel
theorem dR_twice_71 : decode bR_twice 71 = .ok (.getfield 32, 3) := by decide +kernel
theorem dR_twice_74 : decode bR_twice 74 = .ok (.iload_n 2, 1) := by decide +kernel
theorem dR_twice_75 : decode bR_twice 75 = .ok (.iaload, 1) := by decide +kernel
theorem dR_twice_76 : decode bR_twice 76 = .ok (.aload_n 0, 1) := by decide +kernel
theorem dR_twice_77 : decode bR_twice 77 = .ok (.getfield 35, 3) := by decide +kernel
theorem dR_twice_80 : decode bR_twice 80 = .ok (.iload_n 2, 1) := by decide +kernel
theorem dR_twice_81 : decode bR_twice 81 = .ok (.iaload, 1) := by decide +kernel
theorem dR_twice_82 : decode bR_twice 82 = .ok (.aload_n 0, 1) := by decide +kernel
theorem dR_twice_83 : decode bR_twice 83 = .ok (.getfield 38, 3) := by decide +kernel
theorem dR_twice_86 : decode bR_twice 86 = .ok (.iload_n 2, 1) := by decide +kernel
theorem dR_twice_87 : decode bR_twice 87 = .ok (.iaload, 1) := by decide +kernel
theorem dR_twice_88 : decode bR_twice 88 = .ok (.aload_n 0, 1) := by decide +kernel
theorem dR_twice_89 : decode bR_twice 89 = .ok (.getfield 41, 3) := by decide +kernel
theorem dR_twice_92 : decode bR_twice 92 = .ok (.iload_n 2, 1) := by decide +kernel
theorem dR_twice_93 : decode bR_twice 93 = .ok (.laload, 1) := by decide +kernel
theorem dR_twice_94 : decode bR_twice 94 = .ok (.invokevirtual 91, 3) := by decide +kernel
theorem dR_twice_97 : decode bR_twice 97 = .ok (.ireturn, 1) := by decide +kernel
theorem dR_up_0 : decode bR_up 0 = .ok (.aload_n 0, 1) := by decide +kernel
theorem dR_up_1 : decode bR_up 1 = .ok (.iconst 0, 1) := by decide +kernel
theorem dR_up_2 : decode bR_up 2 = .ok (.putfield 59, 3) := by decide +kernel
theorem dR_up_5 : decode bR_up 5 = .ok (.aload_n 0, 1) := by decide +kernel
theorem dR_up_6 : decode bR_up 6 = .ok (.iload_n 1, 1) := by decide +kernel
theorem dR_up_7 : decode bR_up 7 = .ok (.invokevirtual 79, 3) := by decide +kernel
theorem dR_up_10 : decode bR_up 10 = .ok (.ifCond .eq 25, 3) := by decide +kernel
theorem dR_up_13 : decode bR_up 13 = .ok (.aload_n 0, 1) := by decide +kernel
theorem dR_up_14 : decode bR_up 14 = .ok (.getfield 7, 3) := by decide +kernel
theorem dR_up_17 : decode bR_up 17 = .ok (.aload_n 0, 1) := by decide +kernel
theorem dR_up_18 : decode bR_up 18 = .ok (.iload_n 1, 1) := by decide +kernel
theorem dR_up_19 : decode bR_up 19 = .ok (.invokevirtual 79, 3) := by decide +kernel
theorem dR_up_22 : decode bR_up 22 = .ok (.ifCond .eq 7, 3) := by decide +kernel
theorem dR_up_25 : decode bR_up 25 = .ok (.iload_n 1, 1) := by decide +kernel
theorem dR_up_26 : decode bR_up 26 = .ok (.goto 4, 3) := by decide +kernel
theorem dR_up_29 : decode bR_up 29 = .ok (.iconst 0, 1) := by decide +kernel
theorem dR_up_30 : decode bR_up 30 = .ok (.baload, 1) := by decide +kernel
theorem dR_up_31 : decode bR_up 31 = .ok (.iload_n 2, 1) := by decide +kernel
theorem dR_up_32 : decode bR_up 32 = .ok (.if_icmp .eq 5, 3) := by decide +kernel
theorem dR_up_35 : decode bR_up 35 = .ok (.iconst 0, 1) := by decide +kernel
theorem dR_up_36 : decode bR_up 36 = .ok (.ireturn, 1) := by decide +kernel
theorem dR_up_37 : decode bR_up 37 = .ok (.aload_n 0, 1) := by decide +kernel
theorem dR_up_38 : decode bR_up 38 = .ok (.getfield 7, 3) := by decide +kernel
theorem dR_up_41 : decode bR_up 41 = .ok (.iload_n 1, 1) := by decide +kernel
theorem dR_up_42 : decode bR_up 42 = .ok (.iload_n 2, 1) := by decide +kernel
theorem dR_up_43 : decode bR_up 43 = .ok (.ifCond .ne 7, 3) := by decide +kernel
theorem dR_up_46 : decode bR_up 46 = .ok (.iconst 1, 1) := by decide +kernel
theorem dR_up_47 : decode bR_up 47 = .ok (.goto 4, 3) := by decide +kernel
theorem dR_up_50 : decode bR_up 50 = .ok (.iconst 0, 1) := by decide +kernel
theorem dR_up_51 : decode bR_up 51 = .ok (.bastore, 1) := by decide +kernel
theorem dR_up_52 : decode bR_up 52 = .ok (.iconst 1, 1) := by decide +kernel
theorem dR_up_53 : decode bR_up 53 = .ok (.ireturn, 1) := by decide +kernel
theorem dR_message_0 : decode bR_message 0 = .ok (.aload_n 0, 1) := by decide +kernel
theorem dR_message_1 : decode bR_message 1 = .ok (.aload_n 0, 1) := by decide +kernel
theorem dR_message_2 : decode bR_message 2 = .ok (.iload_n 1, 1) := by decide +kernel
theorem dR_message_3 : decode bR_message 3 = .ok (.invokevirtual 103, 3) := by decide +kernel
theorem dR_message_6 : decode bR_message 6 = .ok (.ifCond .eq 16, 3) := by decide +kernel
theorem dR_message_9 : decode bR_message 9 = .ok (.iload_n 2, 1) := by decide +kernel
theorem dR_message_10 : decode bR_message 10 = .ok (.ifCond .lt 12, 3) := by decide +kernel
theorem dR_message_13 : decode bR_message 13 = .ok (.iload_n 2, 1) := by decide +kernel
theorem dR_message_14 : decode bR_message 14 = .ok (.iconst 4, 1) := by decide +kernel
theorem dR_message_15 : decode bR_message 15 = .ok (.if_icmp .gt 7, 3) := by decide +kernel
theorem dR_message_18 : decode bR_message 18 = .ok (.iconst 0, 1) := by decide +kernel
theorem dR_message_19 : decode bR_message 19 = .ok (.goto 4, 3) := by decide +kernel
theorem dR_message_22 : decode bR_message 22 = .ok (.iconst 1, 1) := by decide +kernel
theorem dR_message_23 : decode bR_message 23 = .ok (.putfield 59, 3) := by decide +kernel
theorem dR_message_26 : decode bR_message 26 = .ok (.aload_n 0, 1) := by decide +kernel
theorem dR_message_27 : decode bR_message 27 = .ok (.getfield 59, 3) := by decide +kernel
theorem dR_message_30 : decode bR_message 30 = .ok (.ifCond .le 5, 3) := by decide +kernel
theorem dR_message_33 : decode bR_message 33 = .ok (.iconst 0, 1) := by decide +kernel
theorem dR_message_34 : decode bR_message 34 = .ok (.ireturn, 1) := by decide +kernel
theorem dR_message_35 : decode bR_message 35 = .ok (.aload_n 0, 1) := by decide +kernel
theorem dR_message_36 : decode bR_message 36 = .ok (.getfield 26, 3) := by decide +kernel
theorem dR_message_39 : decode bR_message 39 = .ok (.iload_n 1, 1) := by decide +kernel
theorem dR_message_40 : decode bR_message 40 = .ok (.iaload, 1) := by decide +kernel
theorem dR_message_41 : decode bR_message 41 = .ok (.istore_n 3, 1) := by decide +kernel
theorem dR_message_42 : decode bR_message 42 = .ok (.iload_n 2, 1) := by decide +kernel
theorem dR_message_43 : decode bR_message 43 = .ok (.ifCond .ne 12, 3) := by decide +kernel
theorem dR_message_46 : decode bR_message 46 = .ok (.aload_n 0, 1) := by decide +kernel
theorem dR_message_47 : decode bR_message 47 = .ok (.getfield 29, 3) := by decide +kernel
theorem dR_message_50 : decode bR_message 50 = .ok (.iload_n 3, 1) := by decide +kernel
theorem dR_message_51 : decode bR_message 51 = .ok (.iaload, 1) := by decide +kernel
theorem dR_message_52 : decode bR_message 52 = .ok (.goto 50, 3) := by decide +kernel
theorem dR_message_55 : decode bR_message 55 = .ok (.iload_n 2, 1) := by decide +kernel
theorem dR_message_56 : decode bR_message 56 = .ok (.iconst 1, 1) := by decide +kernel
theorem dR_message_57 : decode bR_message 57 = .ok (.if_icmp .ne 12, 3) := by decide +kernel
theorem dR_message_60 : decode bR_message 60 = .ok (.aload_n 0, 1) := by decide +kernel
theorem dR_message_61 : decode bR_message 61 = .ok (.getfield 32, 3) := by decide +kernel
theorem dR_message_64 : decode bR_message 64 = .ok (.iload_n 3, 1) := by decide +kernel
theorem dR_message_65 : decode bR_message 65 = .ok (.iaload, 1) := by decide +kernel
theorem dR_message_66 : decode bR_message 66 = .ok (.goto 36, 3) := by decide +kernel
theorem dR_message_69 : decode bR_message 69 = .ok (.iload_n 2, 1) := by decide +kernel
theorem dR_message_70 : decode bR_message 70 = .ok (.iconst 2, 1) := by decide +kernel
theorem dR_message_71 : decode bR_message 71 = .ok (.if_icmp .ne 12, 3) := by decide +kernel
theorem dR_message_74 : decode bR_message 74 = .ok (.aload_n 0, 1) := by decide +kernel
theorem dR_message_75 : decode bR_message 75 = .ok (.getfield 35, 3) := by decide +kernel
theorem dR_message_78 : decode bR_message 78 = .ok (.iload_n 3, 1) := by decide +kernel
theorem dR_message_79 : decode bR_message 79 = .ok (.iaload, 1) := by decide +kernel
theorem dR_message_80 : decode bR_message 80 = .ok (.goto 22, 3) := by decide +kernel
theorem dR_message_83 : decode bR_message 83 = .ok (.iload_n 2, 1) := by decide +kernel
theorem dR_message_84 : decode bR_message 84 = .ok (.iconst 3, 1) := by decide +kernel
theorem dR_message_85 : decode bR_message 85 = .ok (.if_icmp .ne 11, 3) := by decide +kernel
theorem dR_message_88 : decode bR_message 88 = .ok (.aload_n 0, 1) := by decide +kernel
theorem dR_message_89 : decode bR_message 89 = .ok (.iload_n 3, 1) := by decide +kernel
theorem dR_message_90 : decode bR_message 90 = .ok (.invokevirtual 120, 3) := by decide +kernel
theorem dR_message_93 : decode bR_message 93 = .ok (.goto 9, 3) := by decide +kernel
theorem dR_message_96 : decode bR_message 96 = .ok (.aload_n 0, 1) := by decide +kernel
theorem dR_message_97 : decode bR_message 97 = .ok (.getfield 38, 3) := by decide +kernel
theorem dR_message_100 : decode bR_message 100 = .ok (.iload_n 3, 1) := by decide +kernel
theorem dR_message_101 : decode bR_message 101 = .ok (.iaload, 1) := by decide +kernel
theorem dR_message_102 : decode bR_message 102 = .ok (.ireturn, 1) := by decide +kernel
theorem dR_bytesOf_0 : decode bR_bytesOf 0 = .ok (.aload_n 0, 1) := by decide +kernel
theorem dR_bytesOf_1 : decode bR_bytesOf 1 = .ok (.getfield 38, 3) := by decide +kernel
theorem dR_bytesOf_4 : decode bR_bytesOf 4 = .ok (.iload_n 1, 1) := by decide +kernel
theorem dR_bytesOf_5 : decode bR_bytesOf 5 = .ok (.iaload, 1) := by decide +kernel
theorem dR_bytesOf_6 : decode bR_bytesOf 6 = .ok (.ifCond .ge 12, 3) := by decide +kernel
theorem dR_bytesOf_9 : decode bR_bytesOf 9 = .ok (.iconst 3, 1) := by decide +kernel
theorem dR_bytesOf_10 : decode bR_bytesOf 10 = .ok (.aload_n 0, 1) := by decide +kernel
theorem dR_bytesOf_11 : decode bR_bytesOf 11 = .ok (.getfield 52, 3) := by decide +kernel
theorem dR_bytesOf_14 : decode bR_bytesOf 14 = .ok (.iadd, 1) := by decide +kernel
theorem dR_bytesOf_15 : decode bR_bytesOf 15 = .ok (.goto 4, 3) := by decide +kernel
theorem dR_bytesOf_18 : decode bR_bytesOf 18 = .ok (.iconst 3, 1) := by decide +kernel
theorem dR_bytesOf_19 : decode bR_bytesOf 19 = .ok (.istore_n 2, 1) := by decide +kernel
theorem dR_bytesOf_20 : decode bR_bytesOf 20 = .ok (.iconst 0, 1) := by decide +kernel
theorem dR_bytesOf_21 : decode bR_bytesOf 21 = .ok (.istore_n 3, 1) := by decide +kernel
theorem dR_bytesOf_22 : decode bR_bytesOf 22 = .ok (.iload_n 3, 1) := by decide +kernel
theorem dR_bytesOf_23 : decode bR_bytesOf 23 = .ok (.aload_n 0, 1) := by decide +kernel
theorem dR_bytesOf_24 : decode bR_bytesOf 24 = .ok (.getfield 38, 3) := by decide +kernel
theorem dR_bytesOf_27 : decode bR_bytesOf 27 = .ok (.iload_n 1, 1) := by decide +kernel
theorem dR_bytesOf_28 : decode bR_bytesOf 28 = .ok (.iaload, 1) := by decide +kernel
theorem dR_bytesOf_29 : decode bR_bytesOf 29 = .ok (.if_icmp .ge 28, 3) := by decide +kernel
theorem dR_bytesOf_32 : decode bR_bytesOf 32 = .ok (.iload_n 2, 1) := by decide +kernel
theorem dR_bytesOf_33 : decode bR_bytesOf 33 = .ok (.aload_n 0, 1) := by decide +kernel
theorem dR_bytesOf_34 : decode bR_bytesOf 34 = .ok (.aload_n 0, 1) := by decide +kernel
theorem dR_bytesOf_35 : decode bR_bytesOf 35 = .ok (.getfield 46, 3) := by decide +kernel
theorem dR_bytesOf_38 : decode bR_bytesOf 38 = .ok (.sipush 480, 3) := by decide +kernel
theorem dR_bytesOf_41 : decode bR_bytesOf 41 = .ok (.iload_n 1, 1) := by decide +kernel
theorem dR_bytesOf_42 : decode bR_bytesOf 42 = .ok (.imul, 1) := by decide +kernel
theorem dR_bytesOf_43 : decode bR_bytesOf 43 = .ok (.iload_n 3, 1) := by decide +kernel
theorem dR_bytesOf_44 : decode bR_bytesOf 44 = .ok (.iadd, 1) := by decide +kernel
theorem dR_bytesOf_45 : decode bR_bytesOf 45 = .ok (.iaload, 1) := by decide +kernel
theorem dR_bytesOf_46 : decode bR_bytesOf 46 = .ok (.invokevirtual 75, 3) := by decide +kernel
theorem dR_bytesOf_49 : decode bR_bytesOf 49 = .ok (.iadd, 1) := by decide +kernel
theorem dR_bytesOf_50 : decode bR_bytesOf 50 = .ok (.istore_n 2, 1) := by decide +kernel
theorem dR_bytesOf_51 : decode bR_bytesOf 51 = .ok (.iinc 3 1, 3) := by decide +kernel
theorem dR_bytesOf_54 : decode bR_bytesOf 54 = .ok (.goto (-32), 3) := by decide +kernel
theorem dR_bytesOf_57 : decode bR_bytesOf 57 = .ok (.iload_n 2, 1) := by decide +kernel
theorem dR_bytesOf_58 : decode bR_bytesOf 58 = .ok (.ireturn, 1) := by decide +kernel
theorem dR_inside_0 : decode bR_inside 0 = .ok (.aload_n 0, 1) := by decide +kernel
theorem dR_inside_1 : decode bR_inside 1 = .ok (.iconst 0, 1) := by decide +kernel
theorem dR_inside_2 : decode bR_inside 2 = .ok (.putfield 59, 3) := by decide +kernel
theorem dR_inside_5 : decode bR_inside 5 = .ok (.aload_n 0, 1) := by decide +kernel
theorem dR_inside_6 : decode bR_inside 6 = .ok (.iload_n 1, 1) := by decide +kernel
theorem dR_inside_7 : decode bR_inside 7 = .ok (.invokevirtual 103, 3) := by decide +kernel
theorem dR_inside_10 : decode bR_inside 10 = .ok (.ifCond .eq 34, 3) := by decide +kernel
theorem dR_inside_13 : decode bR_inside 13 = .ok (.iload_n 2, 1) := by decide +kernel
theorem dR_inside_14 : decode bR_inside 14 = .ok (.ifCond .lt 30, 3) := by decide +kernel
theorem dR_inside_17 : decode bR_inside 17 = .ok (.iload_n 2, 1) := by decide +kernel
theorem dR_inside_18 : decode bR_inside 18 = .ok (.aload_n 0, 1) := by decide +kernel
theorem dR_inside_19 : decode bR_inside 19 = .ok (.getfield 38, 3) := by decide +kernel
theorem dR_inside_22 : decode bR_inside 22 = .ok (.aload_n 0, 1) := by decide +kernel
theorem dR_inside_23 : decode bR_inside 23 = .ok (.getfield 26, 3) := by decide +kernel
theorem dR_inside_26 : decode bR_inside 26 = .ok (.aload_n 0, 1) := by decide +kernel
theorem dR_inside_27 : decode bR_inside 27 = .ok (.iload_n 1, 1) := by decide +kernel
theorem dR_inside_28 : decode bR_inside 28 = .ok (.invokevirtual 103, 3) := by decide +kernel
theorem dR_inside_31 : decode bR_inside 31 = .ok (.ifCond .eq 7, 3) := by decide +kernel
theorem dR_inside_34 : decode bR_inside 34 = .ok (.iload_n 1, 1) := by decide +kernel
theorem dR_inside_35 : decode bR_inside 35 = .ok (.goto 4, 3) := by decide +kernel
theorem dR_inside_38 : decode bR_inside 38 = .ok (.iconst 0, 1) := by decide +kernel
theorem dR_inside_39 : decode bR_inside 39 = .ok (.iaload, 1) := by decide +kernel
theorem dR_inside_40 : decode bR_inside 40 = .ok (.iaload, 1) := by decide +kernel
theorem dR_inside_41 : decode bR_inside 41 = .ok (.if_icmp .lt 7, 3) := by decide +kernel
theorem dR_inside_44 : decode bR_inside 44 = .ok (.iconst (-1), 1) := by decide +kernel
theorem dR_inside_45 : decode bR_inside 45 = .ok (.goto 20, 3) := by decide +kernel
theorem dR_inside_48 : decode bR_inside 48 = .ok (.aload_n 0, 1) := by decide +kernel
theorem dR_inside_49 : decode bR_inside 49 = .ok (.getfield 46, 3) := by decide +kernel
theorem dR_inside_52 : decode bR_inside 52 = .ok (.sipush 480, 3) := by decide +kernel
theorem dR_inside_55 : decode bR_inside 55 = .ok (.aload_n 0, 1) := by decide +kernel
theorem dR_inside_56 : decode bR_inside 56 = .ok (.getfield 26, 3) := by decide +kernel
theorem dR_inside_59 : decode bR_inside 59 = .ok (.iload_n 1, 1) := by decide +kernel
theorem dR_inside_60 : decode bR_inside 60 = .ok (.iaload, 1) := by decide +kernel
theorem dR_inside_61 : decode bR_inside 61 = .ok (.imul, 1) := by decide +kernel
theorem dR_inside_62 : decode bR_inside 62 = .ok (.iload_n 2, 1) := by decide +kernel
theorem dR_inside_63 : decode bR_inside 63 = .ok (.iadd, 1) := by decide +kernel
theorem dR_inside_64 : decode bR_inside 64 = .ok (.iaload, 1) := by decide +kernel
theorem dR_inside_65 : decode bR_inside 65 = .ok (.ireturn, 1) := by decide +kernel
theorem dR_told_0 : decode bR_told 0 = .ok (.aload_n 0, 1) := by decide +kernel
theorem dR_told_1 : decode bR_told 1 = .ok (.iconst 0, 1) := by decide +kernel
theorem dR_told_2 : decode bR_told 2 = .ok (.putfield 59, 3) := by decide +kernel
theorem dR_told_5 : decode bR_told 5 = .ok (.aload_n 0, 1) := by decide +kernel
theorem dR_told_6 : decode bR_told 6 = .ok (.iload_n 1, 1) := by decide +kernel
theorem dR_told_7 : decode bR_told 7 = .ok (.invokevirtual 103, 3) := by decide +kernel
theorem dR_told_10 : decode bR_told 10 = .ok (.ifCond .eq 29, 3) := by decide +kernel
theorem dR_told_13 : decode bR_told 13 = .ok (.aload_n 0, 1) := by decide +kernel
theorem dR_told_14 : decode bR_told 14 = .ok (.getfield 38, 3) := by decide +kernel
theorem dR_told_17 : decode bR_told 17 = .ok (.aload_n 0, 1) := by decide +kernel
theorem dR_told_18 : decode bR_told 18 = .ok (.getfield 26, 3) := by decide +kernel
theorem dR_told_21 : decode bR_told 21 = .ok (.aload_n 0, 1) := by decide +kernel
theorem dR_told_22 : decode bR_told 22 = .ok (.iload_n 1, 1) := by decide +kernel
theorem dR_told_23 : decode bR_told 23 = .ok (.invokevirtual 103, 3) := by decide +kernel
theorem dR_told_26 : decode bR_told 26 = .ok (.ifCond .eq 7, 3) := by decide +kernel
theorem dR_told_29 : decode bR_told 29 = .ok (.iload_n 1, 1) := by decide +kernel
theorem dR_told_30 : decode bR_told 30 = .ok (.goto 4, 3) := by decide +kernel
theorem dR_told_33 : decode bR_told 33 = .ok (.iconst 0, 1) := by decide +kernel
theorem dR_told_34 : decode bR_told 34 = .ok (.iaload, 1) := by decide +kernel
theorem dR_told_35 : decode bR_told 35 = .ok (.iaload, 1) := by decide +kernel
theorem dR_told_36 : decode bR_told 36 = .ok (.ifCond .lt 9, 3) := by decide +kernel
theorem dR_told_39 : decode bR_told 39 = .ok (.ldc2_w 123, 3) := by decide +kernel
theorem dR_told_42 : decode bR_told 42 = .ok (.goto 14, 3) := by decide +kernel
theorem dR_told_45 : decode bR_told 45 = .ok (.aload_n 0, 1) := by decide +kernel
theorem dR_told_46 : decode bR_told 46 = .ok (.getfield 41, 3) := by decide +kernel
theorem dR_told_49 : decode bR_told 49 = .ok (.aload_n 0, 1) := by decide +kernel
theorem dR_told_50 : decode bR_told 50 = .ok (.getfield 26, 3) := by decide +kernel
theorem dR_told_53 : decode bR_told 53 = .ok (.iload_n 1, 1) := by decide +kernel
theorem dR_told_54 : decode bR_told 54 = .ok (.iaload, 1) := by decide +kernel
theorem dR_told_55 : decode bR_told 55 = .ok (.laload, 1) := by decide +kernel
theorem dR_told_56 : decode bR_told 56 = .ok (.lreturn, 1) := by decide +kernel
theorem dR_clock_0 : decode bR_clock 0 = .ok (.aload_n 0, 1) := by decide +kernel
theorem dR_clock_1 : decode bR_clock 1 = .ok (.aload_n 0, 1) := by decide +kernel
theorem dR_clock_2 : decode bR_clock 2 = .ok (.iload_n 1, 1) := by decide +kernel
theorem dR_clock_3 : decode bR_clock 3 = .ok (.invokevirtual 79, 3) := by decide +kernel
theorem dR_clock_6 : decode bR_clock 6 = .ok (.ifCond .eq 7, 3) := by decide +kernel
theorem dR_clock_9 : decode bR_clock 9 = .ok (.iconst 0, 1) := by decide +kernel
theorem dR_clock_10 : decode bR_clock 10 = .ok (.goto 4, 3) := by decide +kernel
theorem dR_clock_13 : decode bR_clock 13 = .ok (.iconst 1, 1) := by decide +kernel
theorem dR_clock_14 : decode bR_clock 14 = .ok (.putfield 59, 3) := by decide +kernel
theorem dR_clock_17 : decode bR_clock 17 = .ok (.aload_n 0, 1) := by decide +kernel
theorem dR_clock_18 : decode bR_clock 18 = .ok (.getfield 59, 3) := by decide +kernel
theorem dR_clock_21 : decode bR_clock 21 = .ok (.ifCond .le 7, 3) := by decide +kernel
theorem dR_clock_24 : decode bR_clock 24 = .ok (.lconst 0, 1) := by decide +kernel
theorem dR_clock_25 : decode bR_clock 25 = .ok (.goto 8, 3) := by decide +kernel
theorem dR_clock_28 : decode bR_clock 28 = .ok (.aload_n 0, 1) := by decide +kernel
theorem dR_clock_29 : decode bR_clock 29 = .ok (.iload_n 1, 1) := by decide +kernel
theorem dR_clock_30 : decode bR_clock 30 = .ok (.invokevirtual 87, 3) := by decide +kernel
theorem dR_clock_33 : decode bR_clock 33 = .ok (.lreturn, 1) := by decide +kernel
theorem dR_log_0 : decode bR_log 0 = .ok (.aload_n 0, 1) := by decide +kernel
theorem dR_log_1 : decode bR_log 1 = .ok (.iconst 0, 1) := by decide +kernel
theorem dR_log_2 : decode bR_log 2 = .ok (.putfield 59, 3) := by decide +kernel
theorem dR_log_5 : decode bR_log 5 = .ok (.aload_n 0, 1) := by decide +kernel
theorem dR_log_6 : decode bR_log 6 = .ok (.iload_n 1, 1) := by decide +kernel
theorem dR_log_7 : decode bR_log 7 = .ok (.invokevirtual 79, 3) := by decide +kernel
theorem dR_log_10 : decode bR_log 10 = .ok (.ifCond .eq 29, 3) := by decide +kernel
theorem dR_log_13 : decode bR_log 13 = .ok (.iload_n 2, 1) := by decide +kernel
theorem dR_log_14 : decode bR_log 14 = .ok (.ifCond .lt 25, 3) := by decide +kernel
theorem dR_log_17 : decode bR_log 17 = .ok (.iload_n 2, 1) := by decide +kernel
theorem dR_log_18 : decode bR_log 18 = .ok (.aload_n 0, 1) := by decide +kernel
theorem dR_log_19 : decode bR_log 19 = .ok (.getfield 23, 3) := by decide +kernel
theorem dR_log_22 : decode bR_log 22 = .ok (.aload_n 0, 1) := by decide +kernel
theorem dR_log_23 : decode bR_log 23 = .ok (.iload_n 1, 1) := by decide +kernel
theorem dR_log_24 : decode bR_log 24 = .ok (.invokevirtual 79, 3) := by decide +kernel
theorem dR_log_27 : decode bR_log 27 = .ok (.ifCond .eq 7, 3) := by decide +kernel
theorem dR_log_30 : decode bR_log 30 = .ok (.iload_n 1, 1) := by decide +kernel
theorem dR_log_31 : decode bR_log 31 = .ok (.goto 4, 3) := by decide +kernel
theorem dR_log_34 : decode bR_log 34 = .ok (.iconst 0, 1) := by decide +kernel
theorem dR_log_35 : decode bR_log 35 = .ok (.iaload, 1) := by decide +kernel
theorem dR_log_36 : decode bR_log 36 = .ok (.if_icmp .lt 7, 3) := by decide +kernel
theorem dR_log_39 : decode bR_log 39 = .ok (.iconst (-1), 1) := by decide +kernel
theorem dR_log_40 : decode bR_log 40 = .ok (.goto 15, 3) := by decide +kernel
theorem dR_log_43 : decode bR_log 43 = .ok (.aload_n 0, 1) := by decide +kernel
theorem dR_log_44 : decode bR_log 44 = .ok (.getfield 20, 3) := by decide +kernel
theorem dR_log_47 : decode bR_log 47 = .ok (.sipush 480, 3) := by decide +kernel
theorem dR_log_50 : decode bR_log 50 = .ok (.iload_n 1, 1) := by decide +kernel
theorem dR_log_51 : decode bR_log 51 = .ok (.imul, 1) := by decide +kernel
theorem dR_log_52 : decode bR_log 52 = .ok (.iload_n 2, 1) := by decide +kernel
theorem dR_log_53 : decode bR_log 53 = .ok (.iadd, 1) := by decide +kernel
theorem dR_log_54 : decode bR_log 54 = .ok (.iaload, 1) := by decide +kernel
theorem dR_log_55 : decode bR_log 55 = .ok (.ireturn, 1) := by decide +kernel
theorem dR_weight_0 : decode bR_weight 0 = .ok (.aload_n 0, 1) := by decide +kernel
theorem dR_weight_1 : decode bR_weight 1 = .ok (.iconst 0, 1) := by decide +kernel
theorem dR_weight_2 : decode bR_weight 2 = .ok (.putfield 59, 3) := by decide +kernel
theorem dR_weight_5 : decode bR_weight 5 = .ok (.aload_n 0, 1) := by decide +kernel
theorem dR_weight_6 : decode bR_weight 6 = .ok (.iload_n 1, 1) := by decide +kernel
theorem dR_weight_7 : decode bR_weight 7 = .ok (.invokevirtual 79, 3) := by decide +kernel
theorem dR_weight_10 : decode bR_weight 10 = .ok (.ifCond .eq 30, 3) := by decide +kernel
theorem dR_weight_13 : decode bR_weight 13 = .ok (.iload_n 2, 1) := by decide +kernel
theorem dR_weight_14 : decode bR_weight 14 = .ok (.iconst 1, 1) := by decide +kernel
theorem dR_weight_15 : decode bR_weight 15 = .ok (.if_icmp .lt 25, 3) := by decide +kernel
theorem dR_weight_18 : decode bR_weight 18 = .ok (.iload_n 2, 1) := by decide +kernel
theorem dR_weight_19 : decode bR_weight 19 = .ok (.aload_n 0, 1) := by decide +kernel
theorem dR_weight_20 : decode bR_weight 20 = .ok (.getfield 13, 3) := by decide +kernel
theorem dR_weight_23 : decode bR_weight 23 = .ok (.aload_n 0, 1) := by decide +kernel
theorem dR_weight_24 : decode bR_weight 24 = .ok (.iload_n 1, 1) := by decide +kernel
theorem dR_weight_25 : decode bR_weight 25 = .ok (.invokevirtual 79, 3) := by decide +kernel
theorem dR_weight_28 : decode bR_weight 28 = .ok (.ifCond .eq 7, 3) := by decide +kernel
theorem dR_weight_31 : decode bR_weight 31 = .ok (.iload_n 1, 1) := by decide +kernel
theorem dR_weight_32 : decode bR_weight 32 = .ok (.goto 4, 3) := by decide +kernel
theorem dR_weight_35 : decode bR_weight 35 = .ok (.iconst 0, 1) := by decide +kernel
theorem dR_weight_36 : decode bR_weight 36 = .ok (.iaload, 1) := by decide +kernel
theorem dR_weight_37 : decode bR_weight 37 = .ok (.if_icmp .le 7, 3) := by decide +kernel
theorem dR_weight_40 : decode bR_weight 40 = .ok (.iconst (-1), 1) := by decide +kernel
theorem dR_weight_41 : decode bR_weight 41 = .ok (.goto 16, 3) := by decide +kernel
theorem dR_weight_44 : decode bR_weight 44 = .ok (.aload_n 0, 1) := by decide +kernel
theorem dR_weight_45 : decode bR_weight 45 = .ok (.getfield 17, 3) := by decide +kernel
theorem dR_weight_48 : decode bR_weight 48 = .ok (.bipush 61, 2) := by decide +kernel
theorem dR_weight_50 : decode bR_weight 50 = .ok (.iload_n 1, 1) := by decide +kernel
theorem dR_weight_51 : decode bR_weight 51 = .ok (.imul, 1) := by decide +kernel
theorem dR_weight_52 : decode bR_weight 52 = .ok (.iload_n 2, 1) := by decide +kernel
theorem dR_weight_53 : decode bR_weight 53 = .ok (.iadd, 1) := by decide +kernel
theorem dR_weight_54 : decode bR_weight 54 = .ok (.iconst 1, 1) := by decide +kernel
theorem dR_weight_55 : decode bR_weight 55 = .ok (.isub, 1) := by decide +kernel
theorem dR_weight_56 : decode bR_weight 56 = .ok (.iaload, 1) := by decide +kernel
theorem dR_weight_57 : decode bR_weight 57 = .ok (.ireturn, 1) := by decide +kernel
theorem dR_lacks_0 : decode bR_lacks 0 = .ok (.aload_n 0, 1) := by decide +kernel
theorem dR_lacks_1 : decode bR_lacks 1 = .ok (.aload_n 0, 1) := by decide +kernel
theorem dR_lacks_2 : decode bR_lacks 2 = .ok (.iload_n 1, 1) := by decide +kernel
theorem dR_lacks_3 : decode bR_lacks 3 = .ok (.invokevirtual 79, 3) := by decide +kernel
theorem dR_lacks_6 : decode bR_lacks 6 = .ok (.ifCond .eq 7, 3) := by decide +kernel
theorem dR_lacks_9 : decode bR_lacks 9 = .ok (.iconst 0, 1) := by decide +kernel
theorem dR_lacks_10 : decode bR_lacks 10 = .ok (.goto 4, 3) := by decide +kernel
theorem dR_lacks_13 : decode bR_lacks 13 = .ok (.iconst 1, 1) := by decide +kernel
theorem dR_lacks_14 : decode bR_lacks 14 = .ok (.putfield 59, 3) := by decide +kernel
theorem dR_lacks_17 : decode bR_lacks 17 = .ok (.aload_n 0, 1) := by decide +kernel
theorem dR_lacks_18 : decode bR_lacks 18 = .ok (.getfield 59, 3) := by decide +kernel
theorem dR_lacks_21 : decode bR_lacks 21 = .ok (.ifCond .le 7, 3) := by decide +kernel
theorem dR_lacks_24 : decode bR_lacks 24 = .ok (.iconst 0, 1) := by decide +kernel
theorem dR_lacks_25 : decode bR_lacks 25 = .ok (.goto 14, 3) := by decide +kernel
theorem dR_lacks_28 : decode bR_lacks 28 = .ok (.aload_n 0, 1) := by decide +kernel
theorem dR_lacks_29 : decode bR_lacks 29 = .ok (.invokevirtual 125, 3) := by decide +kernel
theorem dR_lacks_32 : decode bR_lacks 32 = .ok (.aload_n 0, 1) := by decide +kernel
theorem dR_lacks_33 : decode bR_lacks 33 = .ok (.getfield 23, 3) := by decide +kernel
theorem dR_lacks_36 : decode bR_lacks 36 = .ok (.iload_n 1, 1) := by decide +kernel
theorem dR_lacks_37 : decode bR_lacks 37 = .ok (.iaload, 1) := by decide +kernel
theorem dR_lacks_38 : decode bR_lacks 38 = .ok (.isub, 1) := by decide +kernel
theorem dR_lacks_39 : decode bR_lacks 39 = .ok (.ireturn, 1) := by decide +kernel
theorem dR_total_0 : decode bR_total 0 = .ok (.iconst 0, 1) := by decide +kernel
theorem dR_total_1 : decode bR_total 1 = .ok (.istore_n 1, 1) := by decide +kernel
theorem dR_total_2 : decode bR_total 2 = .ok (.iconst 0, 1) := by decide +kernel
theorem dR_total_3 : decode bR_total 3 = .ok (.istore_n 2, 1) := by decide +kernel
theorem dR_total_4 : decode bR_total 4 = .ok (.iload_n 2, 1) := by decide +kernel
theorem dR_total_5 : decode bR_total 5 = .ok (.aload_n 0, 1) := by decide +kernel
theorem dR_total_6 : decode bR_total 6 = .ok (.getfield 52, 3) := by decide +kernel
theorem dR_total_9 : decode bR_total 9 = .ok (.if_icmp .ge 18, 3) := by decide +kernel
theorem dR_total_12 : decode bR_total 12 = .ok (.iload_n 1, 1) := by decide +kernel
theorem dR_total_13 : decode bR_total 13 = .ok (.aload_n 0, 1) := by decide +kernel
theorem dR_total_14 : decode bR_total 14 = .ok (.getfield 13, 3) := by decide +kernel
theorem dR_total_17 : decode bR_total 17 = .ok (.iload_n 2, 1) := by decide +kernel
theorem dR_total_18 : decode bR_total 18 = .ok (.iaload, 1) := by decide +kernel
theorem dR_total_19 : decode bR_total 19 = .ok (.iadd, 1) := by decide +kernel
theorem dR_total_20 : decode bR_total 20 = .ok (.istore_n 1, 1) := by decide +kernel
theorem dR_total_21 : decode bR_total 21 = .ok (.iinc 2 1, 3) := by decide +kernel
theorem dR_total_24 : decode bR_total 24 = .ok (.goto (-20), 3) := by decide +kernel
theorem dR_total_27 : decode bR_total 27 = .ok (.iload_n 1, 1) := by decide +kernel
theorem dR_total_28 : decode bR_total 28 = .ok (.ireturn, 1) := by decide +kernel
theorem dR_look_0 : decode bR_look 0 = .ok (.aload_n 0, 1) := by decide +kernel
theorem dR_look_1 : decode bR_look 1 = .ok (.iconst 0, 1) := by decide +kernel
theorem dR_look_2 : decode bR_look 2 = .ok (.putfield 59, 3) := by decide +kernel
theorem dR_look_5 : decode bR_look 5 = .ok (.iconst 0, 1) := by decide +kernel
theorem dR_look_6 : decode bR_look 6 = .ok (.istore_n 2, 1) := by decide +kernel
theorem dR_look_7 : decode bR_look 7 = .ok (.iconst 0, 1) := by decide +kernel
theorem dR_look_8 : decode bR_look 8 = .ok (.istore_n 3, 1) := by decide +kernel
theorem dR_look_9 : decode bR_look 9 = .ok (.iload_n 3, 1) := by decide +kernel
theorem dR_look_10 : decode bR_look 10 = .ok (.aload_n 0, 1) := by decide +kernel
theorem dR_look_11 : decode bR_look 11 = .ok (.getfield 52, 3) := by decide +kernel
theorem dR_look_14 : decode bR_look 14 = .ok (.if_icmp .ge 30, 3) := by decide +kernel
theorem dR_look_17 : decode bR_look 17 = .ok (.iload_n 2, 1) := by decide +kernel
theorem dR_look_18 : decode bR_look 18 = .ok (.aload_n 0, 1) := by decide +kernel
theorem dR_look_19 : decode bR_look 19 = .ok (.getfield 23, 3) := by decide +kernel
theorem dR_look_22 : decode bR_look 22 = .ok (.iload_n 3, 1) := by decide +kernel
theorem dR_look_23 : decode bR_look 23 = .ok (.iaload, 1) := by decide +kernel
theorem dR_look_24 : decode bR_look 24 = .ok (.aload_n 0, 1) := by decide +kernel
theorem dR_look_25 : decode bR_look 25 = .ok (.invokevirtual 125, 3) := by decide +kernel
theorem dR_look_28 : decode bR_look 28 = .ok (.if_icmp .ne 7, 3) := by decide +kernel
theorem dR_look_31 : decode bR_look 31 = .ok (.iconst 1, 1) := by decide +kernel
theorem dR_look_32 : decode bR_look 32 = .ok (.goto 4, 3) := by decide +kernel
theorem dR_look_35 : decode bR_look 35 = .ok (.iconst 0, 1) := by decide +kernel
theorem dR_look_36 : decode bR_look 36 = .ok (.iadd, 1) := by decide +kernel
theorem dR_look_37 : decode bR_look 37 = .ok (.istore_n 2, 1) := by decide +kernel
theorem dR_look_38 : decode bR_look 38 = .ok (.iinc 3 1, 3) := by decide +kernel
theorem dR_look_41 : decode bR_look 41 = .ok (.goto (-32), 3) := by decide +kernel
theorem dR_look_44 : decode bR_look 44 = .ok (.iconst 0, 1) := by decide +kernel
theorem dR_look_45 : decode bR_look 45 = .ok (.istore_n 3, 1) := by decide +kernel
theorem dR_look_46 : decode bR_look 46 = .ok (.iconst 0, 1) := by decide +kernel
theorem dR_look_47 : decode bR_look 47 = .ok (.istore 4, 2) := by decide +kernel
theorem dR_look_49 : decode bR_look 49 = .ok (.iload 4, 2) := by decide +kernel
theorem dR_look_51 : decode bR_look 51 = .ok (.aload_n 0, 1) := by decide +kernel
theorem dR_look_52 : decode bR_look 52 = .ok (.getfield 62, 3) := by decide +kernel
theorem dR_look_55 : decode bR_look 55 = .ok (.if_icmp .ge 23, 3) := by decide +kernel
theorem dR_look_58 : decode bR_look 58 = .ok (.iload_n 3, 1) := by decide +kernel
theorem dR_look_59 : decode bR_look 59 = .ok (.aload_n 0, 1) := by decide +kernel
theorem dR_look_60 : decode bR_look 60 = .ok (.aload_n 0, 1) := by decide +kernel
theorem dR_look_61 : decode bR_look 61 = .ok (.getfield 26, 3) := by decide +kernel
theorem dR_look_64 : decode bR_look 64 = .ok (.iload 4, 2) := by decide +kernel
theorem dR_look_66 : decode bR_look 66 = .ok (.iaload, 1) := by decide +kernel
theorem dR_look_67 : decode bR_look 67 = .ok (.invokevirtual 120, 3) := by decide +kernel
theorem dR_look_70 : decode bR_look 70 = .ok (.iadd, 1) := by decide +kernel
theorem dR_look_71 : decode bR_look 71 = .ok (.istore_n 3, 1) := by decide +kernel
theorem dR_look_72 : decode bR_look 72 = .ok (.iinc 4 1, 3) := by decide +kernel
theorem dR_look_75 : decode bR_look 75 = .ok (.goto (-26), 3) := by decide +kernel
theorem dR_look_78 : decode bR_look 78 = .ok (.iload_n 1, 1) := by decide +kernel
theorem dR_look_79 : decode bR_look 79 = .ok (.tableswitch 88 0 8 #[49, 54, 59, 64, 69, 74, 79, 84, 86], 49) := by decide +kernel
theorem dR_look_128 : decode bR_look 128 = .ok (.aload_n 0, 1) := by decide +kernel
theorem dR_look_129 : decode bR_look 129 = .ok (.getfield 52, 3) := by decide +kernel
theorem dR_look_132 : decode bR_look 132 = .ok (.ireturn, 1) := by decide +kernel
theorem dR_look_133 : decode bR_look 133 = .ok (.aload_n 0, 1) := by decide +kernel
theorem dR_look_134 : decode bR_look 134 = .ok (.getfield 56, 3) := by decide +kernel
theorem dR_look_137 : decode bR_look 137 = .ok (.ireturn, 1) := by decide +kernel
theorem dR_look_138 : decode bR_look 138 = .ok (.aload_n 0, 1) := by decide +kernel
theorem dR_look_139 : decode bR_look 139 = .ok (.getfield 62, 3) := by decide +kernel
theorem dR_look_142 : decode bR_look 142 = .ok (.ireturn, 1) := by decide +kernel
theorem dR_look_143 : decode bR_look 143 = .ok (.aload_n 0, 1) := by decide +kernel
theorem dR_look_144 : decode bR_look 144 = .ok (.getfield 69, 3) := by decide +kernel
theorem dR_look_147 : decode bR_look 147 = .ok (.ireturn, 1) := by decide +kernel
theorem dR_look_148 : decode bR_look 148 = .ok (.aload_n 0, 1) := by decide +kernel
theorem dR_look_149 : decode bR_look 149 = .ok (.getfield 72, 3) := by decide +kernel
theorem dR_look_152 : decode bR_look 152 = .ok (.ireturn, 1) := by decide +kernel
theorem dR_look_153 : decode bR_look 153 = .ok (.aload_n 0, 1) := by decide +kernel
theorem dR_look_154 : decode bR_look 154 = .ok (.getfield 110, 3) := by decide +kernel
theorem dR_look_157 : decode bR_look 157 = .ok (.ireturn, 1) := by decide +kernel
theorem dR_look_158 : decode bR_look 158 = .ok (.aload_n 0, 1) := by decide +kernel
theorem dR_look_159 : decode bR_look 159 = .ok (.getfield 100, 3) := by decide +kernel
theorem dR_look_162 : decode bR_look 162 = .ok (.ireturn, 1) := by decide +kernel
theorem dR_look_163 : decode bR_look 163 = .ok (.iload_n 2, 1) := by decide +kernel
theorem dR_look_164 : decode bR_look 164 = .ok (.ireturn, 1) := by decide +kernel
theorem dR_look_165 : decode bR_look 165 = .ok (.iload_n 3, 1) := by decide +kernel
theorem dR_look_166 : decode bR_look 166 = .ok (.ireturn, 1) := by decide +kernel
theorem dR_look_167 : decode bR_look 167 = .ok (.iconst (-1), 1) := by decide +kernel
theorem dR_look_168 : decode bR_look 168 = .ok (.ireturn, 1) := by decide +kernel
