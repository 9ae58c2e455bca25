theorem dX1_init_0 : decode cX1_init 0 = .ok (.aload_n 0, 1) := by decide +kernel
theorem eX1_init_0 : dec cX1_init 0 (.aload_n 0) 1 1 := ⟨dX1_init_0, rfl⟩
theorem dX1_init_1 : decode cX1_init 1 = .ok (.invokespecial 1, 3) := by decide +kernel
theorem eX1_init_1 : dec cX1_init 1 (.invokespecial 1) 3 4 := ⟨dX1_init_1, rfl⟩
theorem dX1_init_4 : decode cX1_init 4 = .ok (.aload_n 0, 1) := by decide +kernel
theorem eX1_init_4 : dec cX1_init 4 (.aload_n 0) 1 5 := ⟨dX1_init_4, rfl⟩
theorem dX1_init_5 : decode cX1_init 5 = .ok (.sipush 2304, 3) := by decide +kernel
theorem eX1_init_5 : dec cX1_init 5 (.sipush 2304) 3 8 := ⟨dX1_init_5, rfl⟩
theorem dX1_init_8 : decode cX1_init 8 = .ok (.newarray .int, 2) := by decide +kernel
theorem eX1_init_8 : dec cX1_init 8 (.newarray .int) 2 10 := ⟨dX1_init_8, rfl⟩
theorem dX1_init_10 : decode cX1_init 10 = .ok (.putfield 7, 3) := by decide +kernel
theorem eX1_init_10 : dec cX1_init 10 (.putfield 7) 3 13 := ⟨dX1_init_10, rfl⟩
theorem dX1_init_13 : decode cX1_init 13 = .ok (.aload_n 0, 1) := by decide +kernel
theorem eX1_init_13 : dec cX1_init 13 (.aload_n 0) 1 14 := ⟨dX1_init_13, rfl⟩
theorem dX1_init_14 : decode cX1_init 14 = .ok (.sipush 2304, 3) := by decide +kernel
theorem eX1_init_14 : dec cX1_init 14 (.sipush 2304) 3 17 := ⟨dX1_init_14, rfl⟩
theorem dX1_init_17 : decode cX1_init 17 = .ok (.newarray .int, 2) := by decide +kernel
theorem eX1_init_17 : dec cX1_init 17 (.newarray .int) 2 19 := ⟨dX1_init_17, rfl⟩
theorem dX1_init_19 : decode cX1_init 19 = .ok (.putfield 13, 3) := by decide +kernel
theorem eX1_init_19 : dec cX1_init 19 (.putfield 13) 3 22 := ⟨dX1_init_19, rfl⟩
theorem dX1_init_22 : decode cX1_init 22 = .ok (.aload_n 0, 1) := by decide +kernel
theorem eX1_init_22 : dec cX1_init 22 (.aload_n 0) 1 23 := ⟨dX1_init_22, rfl⟩
theorem dX1_init_23 : decode cX1_init 23 = .ok (.sipush 256, 3) := by decide +kernel
theorem eX1_init_23 : dec cX1_init 23 (.sipush 256) 3 26 := ⟨dX1_init_23, rfl⟩
theorem dX1_init_26 : decode cX1_init 26 = .ok (.newarray .int, 2) := by decide +kernel
theorem eX1_init_26 : dec cX1_init 26 (.newarray .int) 2 28 := ⟨dX1_init_26, rfl⟩
theorem dX1_init_28 : decode cX1_init 28 = .ok (.putfield 16, 3) := by decide +kernel
theorem eX1_init_28 : dec cX1_init 28 (.putfield 16) 3 31 := ⟨dX1_init_28, rfl⟩
theorem dX1_init_31 : decode cX1_init 31 = .ok (.aload_n 0, 1) := by decide +kernel
theorem eX1_init_31 : dec cX1_init 31 (.aload_n 0) 1 32 := ⟨dX1_init_31, rfl⟩
theorem dX1_init_32 : decode cX1_init 32 = .ok (.sipush 2304, 3) := by decide +kernel
theorem eX1_init_32 : dec cX1_init 32 (.sipush 2304) 3 35 := ⟨dX1_init_32, rfl⟩
theorem dX1_init_35 : decode cX1_init 35 = .ok (.newarray .int, 2) := by decide +kernel
theorem eX1_init_35 : dec cX1_init 35 (.newarray .int) 2 37 := ⟨dX1_init_35, rfl⟩
theorem dX1_init_37 : decode cX1_init 37 = .ok (.putfield 19, 3) := by decide +kernel
theorem eX1_init_37 : dec cX1_init 37 (.putfield 19) 3 40 := ⟨dX1_init_37, rfl⟩
theorem dX1_init_40 : decode cX1_init 40 = .ok (.aload_n 0, 1) := by decide +kernel
theorem eX1_init_40 : dec cX1_init 40 (.aload_n 0) 1 41 := ⟨dX1_init_40, rfl⟩
theorem dX1_init_41 : decode cX1_init 41 = .ok (.sipush 2304, 3) := by decide +kernel
theorem eX1_init_41 : dec cX1_init 41 (.sipush 2304) 3 44 := ⟨dX1_init_41, rfl⟩
theorem dX1_init_44 : decode cX1_init 44 = .ok (.newarray .int, 2) := by decide +kernel
theorem eX1_init_44 : dec cX1_init 44 (.newarray .int) 2 46 := ⟨dX1_init_44, rfl⟩
theorem dX1_init_46 : decode cX1_init 46 = .ok (.putfield 22, 3) := by decide +kernel
theorem eX1_init_46 : dec cX1_init 46 (.putfield 22) 3 49 := ⟨dX1_init_46, rfl⟩
theorem dX1_init_49 : decode cX1_init 49 = .ok (.aload_n 0, 1) := by decide +kernel
theorem eX1_init_49 : dec cX1_init 49 (.aload_n 0) 1 50 := ⟨dX1_init_49, rfl⟩
theorem dX1_init_50 : decode cX1_init 50 = .ok (.sipush 16128, 3) := by decide +kernel
theorem eX1_init_50 : dec cX1_init 50 (.sipush 16128) 3 53 := ⟨dX1_init_50, rfl⟩
theorem dX1_init_53 : decode cX1_init 53 = .ok (.newarray .int, 2) := by decide +kernel
theorem eX1_init_53 : dec cX1_init 53 (.newarray .int) 2 55 := ⟨dX1_init_53, rfl⟩
theorem dX1_init_55 : decode cX1_init 55 = .ok (.putfield 25, 3) := by decide +kernel
theorem eX1_init_55 : dec cX1_init 55 (.putfield 25) 3 58 := ⟨dX1_init_55, rfl⟩
theorem dX1_init_58 : decode cX1_init 58 = .ok (.aload_n 0, 1) := by decide +kernel
theorem eX1_init_58 : dec cX1_init 58 (.aload_n 0) 1 59 := ⟨dX1_init_58, rfl⟩
theorem dX1_init_59 : decode cX1_init 59 = .ok (.sipush 4608, 3) := by decide +kernel
theorem eX1_init_59 : dec cX1_init 59 (.sipush 4608) 3 62 := ⟨dX1_init_59, rfl⟩
theorem dX1_init_62 : decode cX1_init 62 = .ok (.newarray .byte, 2) := by decide +kernel
theorem eX1_init_62 : dec cX1_init 62 (.newarray .byte) 2 64 := ⟨dX1_init_62, rfl⟩
theorem dX1_init_64 : decode cX1_init 64 = .ok (.putfield 28, 3) := by decide +kernel
theorem eX1_init_64 : dec cX1_init 64 (.putfield 28) 3 67 := ⟨dX1_init_64, rfl⟩
theorem dX1_init_67 : decode cX1_init 67 = .ok (.aload_n 0, 1) := by decide +kernel
theorem eX1_init_67 : dec cX1_init 67 (.aload_n 0) 1 68 := ⟨dX1_init_67, rfl⟩
theorem dX1_init_68 : decode cX1_init 68 = .ok (.sipush 5000, 3) := by decide +kernel
theorem eX1_init_68 : dec cX1_init 68 (.sipush 5000) 3 71 := ⟨dX1_init_68, rfl⟩
theorem dX1_init_71 : decode cX1_init 71 = .ok (.newarray .byte, 2) := by decide +kernel
theorem eX1_init_71 : dec cX1_init 71 (.newarray .byte) 2 73 := ⟨dX1_init_71, rfl⟩
theorem dX1_init_73 : decode cX1_init 73 = .ok (.putfield 32, 3) := by decide +kernel
theorem eX1_init_73 : dec cX1_init 73 (.putfield 32) 3 76 := ⟨dX1_init_73, rfl⟩
theorem dX1_init_76 : decode cX1_init 76 = .ok (.aload_n 0, 1) := by decide +kernel
theorem eX1_init_76 : dec cX1_init 76 (.aload_n 0) 1 77 := ⟨dX1_init_76, rfl⟩
theorem dX1_init_77 : decode cX1_init 77 = .ok (.iload_n 1, 1) := by decide +kernel
theorem eX1_init_77 : dec cX1_init 77 (.iload_n 1) 1 78 := ⟨dX1_init_77, rfl⟩
theorem dX1_init_78 : decode cX1_init 78 = .ok (.iconst 1, 1) := by decide +kernel
theorem eX1_init_78 : dec cX1_init 78 (.iconst 1) 1 79 := ⟨dX1_init_78, rfl⟩
theorem dX1_init_79 : decode cX1_init 79 = .ok (.if_icmp .ge 7, 3) := by decide +kernel
theorem eX1_init_79 : dec cX1_init 79 (.if_icmp .ge 7) 3 82 := ⟨dX1_init_79, rfl⟩
theorem dX1_init_82 : decode cX1_init 82 = .ok (.iconst 1, 1) := by decide +kernel
theorem eX1_init_82 : dec cX1_init 82 (.iconst 1) 1 83 := ⟨dX1_init_82, rfl⟩
theorem dX1_init_83 : decode cX1_init 83 = .ok (.goto 15, 3) := by decide +kernel
theorem eX1_init_83 : dec cX1_init 83 (.goto 15) 3 86 := ⟨dX1_init_83, rfl⟩
theorem dX1_init_86 : decode cX1_init 86 = .ok (.iload_n 1, 1) := by decide +kernel
theorem eX1_init_86 : dec cX1_init 86 (.iload_n 1) 1 87 := ⟨dX1_init_86, rfl⟩
theorem dX1_init_87 : decode cX1_init 87 = .ok (.bipush 48, 2) := by decide +kernel
theorem eX1_init_87 : dec cX1_init 87 (.bipush 48) 2 89 := ⟨dX1_init_87, rfl⟩
theorem dX1_init_89 : decode cX1_init 89 = .ok (.if_icmp .le 8, 3) := by decide +kernel
theorem eX1_init_89 : dec cX1_init 89 (.if_icmp .le 8) 3 92 := ⟨dX1_init_89, rfl⟩
theorem dX1_init_92 : decode cX1_init 92 = .ok (.bipush 48, 2) := by decide +kernel
theorem eX1_init_92 : dec cX1_init 92 (.bipush 48) 2 94 := ⟨dX1_init_92, rfl⟩
theorem dX1_init_94 : decode cX1_init 94 = .ok (.goto 4, 3) := by decide +kernel
theorem eX1_init_94 : dec cX1_init 94 (.goto 4) 3 97 := ⟨dX1_init_94, rfl⟩
theorem dX1_init_97 : decode cX1_init 97 = .ok (.iload_n 1, 1) := by decide +kernel
theorem eX1_init_97 : dec cX1_init 97 (.iload_n 1) 1 98 := ⟨dX1_init_97, rfl⟩
theorem dX1_init_98 : decode cX1_init 98 = .ok (.putfield 35, 3) := by decide +kernel
theorem eX1_init_98 : dec cX1_init 98 (.putfield 35) 3 101 := ⟨dX1_init_98, rfl⟩
theorem dX1_init_101 : decode cX1_init 101 = .ok (.aload_n 0, 1) := by decide +kernel
theorem eX1_init_101 : dec cX1_init 101 (.aload_n 0) 1 102 := ⟨dX1_init_101, rfl⟩
theorem dX1_init_102 : decode cX1_init 102 = .ok (.iload_n 2, 1) := by decide +kernel
theorem eX1_init_102 : dec cX1_init 102 (.iload_n 2) 1 103 := ⟨dX1_init_102, rfl⟩
theorem dX1_init_103 : decode cX1_init 103 = .ok (.iconst 1, 1) := by decide +kernel
theorem eX1_init_103 : dec cX1_init 103 (.iconst 1) 1 104 := ⟨dX1_init_103, rfl⟩
theorem dX1_init_104 : decode cX1_init 104 = .ok (.if_icmp .ge 7, 3) := by decide +kernel
theorem eX1_init_104 : dec cX1_init 104 (.if_icmp .ge 7) 3 107 := ⟨dX1_init_104, rfl⟩
theorem dX1_init_107 : decode cX1_init 107 = .ok (.iconst 1, 1) := by decide +kernel
theorem eX1_init_107 : dec cX1_init 107 (.iconst 1) 1 108 := ⟨dX1_init_107, rfl⟩
theorem dX1_init_108 : decode cX1_init 108 = .ok (.goto 15, 3) := by decide +kernel
theorem eX1_init_108 : dec cX1_init 108 (.goto 15) 3 111 := ⟨dX1_init_108, rfl⟩
theorem dX1_init_111 : decode cX1_init 111 = .ok (.iload_n 2, 1) := by decide +kernel
theorem eX1_init_111 : dec cX1_init 111 (.iload_n 2) 1 112 := ⟨dX1_init_111, rfl⟩
theorem dX1_init_112 : decode cX1_init 112 = .ok (.bipush 48, 2) := by decide +kernel
theorem eX1_init_112 : dec cX1_init 112 (.bipush 48) 2 114 := ⟨dX1_init_112, rfl⟩
theorem dX1_init_114 : decode cX1_init 114 = .ok (.if_icmp .le 8, 3) := by decide +kernel
theorem eX1_init_114 : dec cX1_init 114 (.if_icmp .le 8) 3 117 := ⟨dX1_init_114, rfl⟩
theorem dX1_init_117 : decode cX1_init 117 = .ok (.bipush 48, 2) := by decide +kernel
theorem eX1_init_117 : dec cX1_init 117 (.bipush 48) 2 119 := ⟨dX1_init_117, rfl⟩
theorem dX1_init_119 : decode cX1_init 119 = .ok (.goto 4, 3) := by decide +kernel
theorem eX1_init_119 : dec cX1_init 119 (.goto 4) 3 122 := ⟨dX1_init_119, rfl⟩
theorem dX1_init_122 : decode cX1_init 122 = .ok (.iload_n 2, 1) := by decide +kernel
theorem eX1_init_122 : dec cX1_init 122 (.iload_n 2) 1 123 := ⟨dX1_init_122, rfl⟩
theorem dX1_init_123 : decode cX1_init 123 = .ok (.putfield 39, 3) := by decide +kernel
theorem eX1_init_123 : dec cX1_init 123 (.putfield 39) 3 126 := ⟨dX1_init_123, rfl⟩
theorem dX1_init_126 : decode cX1_init 126 = .ok (.aload_n 0, 1) := by decide +kernel
theorem eX1_init_126 : dec cX1_init 126 (.aload_n 0) 1 127 := ⟨dX1_init_126, rfl⟩
theorem dX1_init_127 : decode cX1_init 127 = .ok (.aload_n 0, 1) := by decide +kernel
theorem eX1_init_127 : dec cX1_init 127 (.aload_n 0) 1 128 := ⟨dX1_init_127, rfl⟩
theorem dX1_init_128 : decode cX1_init 128 = .ok (.getfield 35, 3) := by decide +kernel
theorem eX1_init_128 : dec cX1_init 128 (.getfield 35) 3 131 := ⟨dX1_init_128, rfl⟩
theorem dX1_init_131 : decode cX1_init 131 = .ok (.aload_n 0, 1) := by decide +kernel
theorem eX1_init_131 : dec cX1_init 131 (.aload_n 0) 1 132 := ⟨dX1_init_131, rfl⟩
theorem dX1_init_132 : decode cX1_init 132 = .ok (.getfield 39, 3) := by decide +kernel
theorem eX1_init_132 : dec cX1_init 132 (.getfield 39) 3 135 := ⟨dX1_init_132, rfl⟩
theorem dX1_init_135 : decode cX1_init 135 = .ok (.imul, 1) := by decide +kernel
theorem eX1_init_135 : dec cX1_init 135 .imul 1 136 := ⟨dX1_init_135, rfl⟩
theorem dX1_init_136 : decode cX1_init 136 = .ok (.putfield 42, 3) := by decide +kernel
theorem eX1_init_136 : dec cX1_init 136 (.putfield 42) 3 139 := ⟨dX1_init_136, rfl⟩
theorem dX1_init_139 : decode cX1_init 139 = .ok (.iconst 0, 1) := by decide +kernel
theorem eX1_init_139 : dec cX1_init 139 (.iconst 0) 1 140 := ⟨dX1_init_139, rfl⟩
theorem dX1_init_140 : decode cX1_init 140 = .ok (.istore_n 3, 1) := by decide +kernel
theorem eX1_init_140 : dec cX1_init 140 (.istore_n 3) 1 141 := ⟨dX1_init_140, rfl⟩
theorem dX1_init_141 : decode cX1_init 141 = .ok (.iload_n 3, 1) := by decide +kernel
theorem eX1_init_141 : dec cX1_init 141 (.iload_n 3) 1 142 := ⟨dX1_init_141, rfl⟩
theorem dX1_init_142 : decode cX1_init 142 = .ok (.aload_n 0, 1) := by decide +kernel
theorem eX1_init_142 : dec cX1_init 142 (.aload_n 0) 1 143 := ⟨dX1_init_142, rfl⟩
theorem dX1_init_143 : decode cX1_init 143 = .ok (.getfield 42, 3) := by decide +kernel
theorem eX1_init_143 : dec cX1_init 143 (.getfield 42) 3 146 := ⟨dX1_init_143, rfl⟩
theorem dX1_init_146 : decode cX1_init 146 = .ok (.if_icmp .ge 18, 3) := by decide +kernel
theorem eX1_init_146 : dec cX1_init 146 (.if_icmp .ge 18) 3 149 := ⟨dX1_init_146, rfl⟩
theorem dX1_init_149 : decode cX1_init 149 = .ok (.aload_n 0, 1) := by decide +kernel
theorem eX1_init_149 : dec cX1_init 149 (.aload_n 0) 1 150 := ⟨dX1_init_149, rfl⟩
theorem dX1_init_150 : decode cX1_init 150 = .ok (.getfield 7, 3) := by decide +kernel
theorem eX1_init_150 : dec cX1_init 150 (.getfield 7) 3 153 := ⟨dX1_init_150, rfl⟩
theorem dX1_init_153 : decode cX1_init 153 = .ok (.iload_n 3, 1) := by decide +kernel
theorem eX1_init_153 : dec cX1_init 153 (.iload_n 3) 1 154 := ⟨dX1_init_153, rfl⟩
theorem dX1_init_154 : decode cX1_init 154 = .ok (.sipush 255, 3) := by decide +kernel
theorem eX1_init_154 : dec cX1_init 154 (.sipush 255) 3 157 := ⟨dX1_init_154, rfl⟩
theorem dX1_init_157 : decode cX1_init 157 = .ok (.iastore, 1) := by decide +kernel
theorem eX1_init_157 : dec cX1_init 157 .iastore 1 158 := ⟨dX1_init_157, rfl⟩
theorem dX1_init_158 : decode cX1_init 158 = .ok (.iinc 3 1, 3) := by decide +kernel
theorem eX1_init_158 : dec cX1_init 158 (.iinc 3 1) 3 161 := ⟨dX1_init_158, rfl⟩
theorem dX1_init_161 : decode cX1_init 161 = .ok (.goto (-20), 3) := by decide +kernel
theorem eX1_init_161 : dec cX1_init 161 (.goto (-20)) 3 164 := ⟨dX1_init_161, rfl⟩
theorem dX1_init_164 : decode cX1_init 164 = .ok (.return_, 1) := by decide +kernel
theorem eX1_init_164 : dec cX1_init 164 .return_ 1 165 := ⟨dX1_init_164, rfl⟩
theorem dX1_thrown_0 : decode cX1_thrown 0 = .ok (.aload_n 0, 1) := by decide +kernel
theorem eX1_thrown_0 : dec cX1_thrown 0 (.aload_n 0) 1 1 := ⟨dX1_thrown_0, rfl⟩
theorem dX1_thrown_1 : decode cX1_thrown 1 = .ok (.getfield 45, 3) := by decide +kernel
theorem eX1_thrown_1 : dec cX1_thrown 1 (.getfield 45) 3 4 := ⟨dX1_thrown_1, rfl⟩
theorem dX1_thrown_4 : decode cX1_thrown 4 = .ok (.ireturn, 1) := by decide +kernel
theorem eX1_thrown_4 : dec cX1_thrown 4 .ireturn 1 5 := ⟨dX1_thrown_4, rfl⟩
theorem dX1_refused_0 : decode cX1_refused 0 = .ok (.aload_n 0, 1) := by decide +kernel
theorem eX1_refused_0 : dec cX1_refused 0 (.aload_n 0) 1 1 := ⟨dX1_refused_0, rfl⟩
theorem dX1_refused_1 : decode cX1_refused 1 = .ok (.iload_n 1, 1) := by decide +kernel
theorem eX1_refused_1 : dec cX1_refused 1 (.iload_n 1) 1 2 := ⟨dX1_refused_1, rfl⟩
theorem dX1_refused_2 : decode cX1_refused 2 = .ok (.ifCond .eq 7, 3) := by decide +kernel
theorem eX1_refused_2 : dec cX1_refused 2 (.ifCond .eq 7) 3 5 := ⟨dX1_refused_2, rfl⟩
theorem dX1_refused_5 : decode cX1_refused 5 = .ok (.iconst 1, 1) := by decide +kernel
theorem eX1_refused_5 : dec cX1_refused 5 (.iconst 1) 1 6 := ⟨dX1_refused_5, rfl⟩
theorem dX1_refused_6 : decode cX1_refused 6 = .ok (.goto 4, 3) := by decide +kernel
theorem eX1_refused_6 : dec cX1_refused 6 (.goto 4) 3 9 := ⟨dX1_refused_6, rfl⟩
theorem dX1_refused_9 : decode cX1_refused 9 = .ok (.iconst 0, 1) := by decide +kernel
theorem eX1_refused_9 : dec cX1_refused 9 (.iconst 0) 1 10 := ⟨dX1_refused_9, rfl⟩
theorem dX1_refused_10 : decode cX1_refused 10 = .ok (.putfield 45, 3) := by decide +kernel
theorem eX1_refused_10 : dec cX1_refused 10 (.putfield 45) 3 13 := ⟨dX1_refused_10, rfl⟩
theorem dX1_refused_13 : decode cX1_refused 13 = .ok (.iload_n 1, 1) := by decide +kernel
theorem eX1_refused_13 : dec cX1_refused 13 (.iload_n 1) 1 14 := ⟨dX1_refused_13, rfl⟩
theorem dX1_refused_14 : decode cX1_refused 14 = .ok (.ireturn, 1) := by decide +kernel
theorem eX1_refused_14 : dec cX1_refused 14 .ireturn 1 15 := ⟨dX1_refused_14, rfl⟩
theorem dX1_isOn_0 : decode cX1_isOn 0 = .ok (.iload_n 1, 1) := by decide +kernel
theorem eX1_isOn_0 : dec cX1_isOn 0 (.iload_n 1) 1 1 := ⟨dX1_isOn_0, rfl⟩
theorem dX1_isOn_1 : decode cX1_isOn 1 = .ok (.ifCond .lt 27, 3) := by decide +kernel
theorem eX1_isOn_1 : dec cX1_isOn 1 (.ifCond .lt 27) 3 4 := ⟨dX1_isOn_1, rfl⟩
theorem dX1_isOn_4 : decode cX1_isOn 4 = .ok (.iload_n 1, 1) := by decide +kernel
theorem eX1_isOn_4 : dec cX1_isOn 4 (.iload_n 1) 1 5 := ⟨dX1_isOn_4, rfl⟩
theorem dX1_isOn_5 : decode cX1_isOn 5 = .ok (.aload_n 0, 1) := by decide +kernel
theorem eX1_isOn_5 : dec cX1_isOn 5 (.aload_n 0) 1 6 := ⟨dX1_isOn_5, rfl⟩
theorem dX1_isOn_6 : decode cX1_isOn 6 = .ok (.getfield 35, 3) := by decide +kernel
theorem eX1_isOn_6 : dec cX1_isOn 6 (.getfield 35) 3 9 := ⟨dX1_isOn_6, rfl⟩
theorem dX1_isOn_9 : decode cX1_isOn 9 = .ok (.if_icmp .ge 19, 3) := by decide +kernel
theorem eX1_isOn_9 : dec cX1_isOn 9 (.if_icmp .ge 19) 3 12 := ⟨dX1_isOn_9, rfl⟩
theorem dX1_isOn_12 : decode cX1_isOn 12 = .ok (.iload_n 2, 1) := by decide +kernel
theorem eX1_isOn_12 : dec cX1_isOn 12 (.iload_n 2) 1 13 := ⟨dX1_isOn_12, rfl⟩
theorem dX1_isOn_13 : decode cX1_isOn 13 = .ok (.ifCond .lt 15, 3) := by decide +kernel
theorem eX1_isOn_13 : dec cX1_isOn 13 (.ifCond .lt 15) 3 16 := ⟨dX1_isOn_13, rfl⟩
theorem dX1_isOn_16 : decode cX1_isOn 16 = .ok (.iload_n 2, 1) := by decide +kernel
theorem eX1_isOn_16 : dec cX1_isOn 16 (.iload_n 2) 1 17 := ⟨dX1_isOn_16, rfl⟩
theorem dX1_isOn_17 : decode cX1_isOn 17 = .ok (.aload_n 0, 1) := by decide +kernel
theorem eX1_isOn_17 : dec cX1_isOn 17 (.aload_n 0) 1 18 := ⟨dX1_isOn_17, rfl⟩
theorem dX1_isOn_18 : decode cX1_isOn 18 = .ok (.getfield 39, 3) := by decide +kernel
theorem eX1_isOn_18 : dec cX1_isOn 18 (.getfield 39) 3 21 := ⟨dX1_isOn_18, rfl⟩
theorem dX1_isOn_21 : decode cX1_isOn 21 = .ok (.if_icmp .ge 7, 3) := by decide +kernel
theorem eX1_isOn_21 : dec cX1_isOn 21 (.if_icmp .ge 7) 3 24 := ⟨dX1_isOn_21, rfl⟩
theorem dX1_isOn_24 : decode cX1_isOn 24 = .ok (.iconst 1, 1) := by decide +kernel
theorem eX1_isOn_24 : dec cX1_isOn 24 (.iconst 1) 1 25 := ⟨dX1_isOn_24, rfl⟩
theorem dX1_isOn_25 : decode cX1_isOn 25 = .ok (.goto 4, 3) := by decide +kernel
theorem eX1_isOn_25 : dec cX1_isOn 25 (.goto 4) 3 28 := ⟨dX1_isOn_25, rfl⟩
theorem dX1_isOn_28 : decode cX1_isOn 28 = .ok (.iconst 0, 1) := by decide +kernel
theorem eX1_isOn_28 : dec cX1_isOn 28 (.iconst 0) 1 29 := ⟨dX1_isOn_28, rfl⟩
theorem dX1_isOn_29 : decode cX1_isOn 29 = .ok (.ireturn, 1) := by decide +kernel
theorem eX1_isOn_29 : dec cX1_isOn 29 .ireturn 1 30 := ⟨dX1_isOn_29, rfl⟩
set_option maxRecDepth 20000 in
theorem ggX1_put_X1_isOn : GoodIn wsX1_put wsX1_isOn := goodIn_r _ [7, 2, 8, 14, 15, 16, 17, 18, 19, 20, 21, 22, 23, 24, 25, 26, 27, 28] (by decide +kernel) (by decide +kernel)
set_option maxRecDepth 20000 in
theorem gX1_put_X1_isOn : GoodIn wsX1_put (wsV RX1 48 RX1 yX1_isOn wsX1_isOn) := goodIn_app (goodIn_of _ (by decide +kernel)) ggX1_put_X1_isOn
set_option maxRecDepth 20000 in
theorem ggX1_put_X1_refused : GoodIn wsX1_put wsX1_refused := goodIn_r _ [12, 13, 14, 15, 16, 17, 18, 19, 20, 21, 22, 23, 24, 25, 26, 27, 28] (by decide +kernel) (by decide +kernel)
set_option maxRecDepth 20000 in
theorem gX1_put_X1_refused : GoodIn wsX1_put (wsV RX1 52 RX1 yX1_refused wsX1_refused) := goodIn_app (goodIn_of _ (by decide +kernel)) ggX1_put_X1_refused
theorem dX1_put_0 : decode cX1_put 0 = .ok (.aload_n 0, 1) := by decide +kernel
theorem eX1_put_0 : dec cX1_put 0 (.aload_n 0) 1 1 := ⟨dX1_put_0, rfl⟩
theorem dX1_put_1 : decode cX1_put 1 = .ok (.aload_n 0, 1) := by decide +kernel
theorem eX1_put_1 : dec cX1_put 1 (.aload_n 0) 1 2 := ⟨dX1_put_1, rfl⟩
theorem dX1_put_2 : decode cX1_put 2 = .ok (.iload_n 1, 1) := by decide +kernel
theorem eX1_put_2 : dec cX1_put 2 (.iload_n 1) 1 3 := ⟨dX1_put_2, rfl⟩
theorem dX1_put_3 : decode cX1_put 3 = .ok (.iload_n 2, 1) := by decide +kernel
theorem eX1_put_3 : dec cX1_put 3 (.iload_n 2) 1 4 := ⟨dX1_put_3, rfl⟩
theorem dX1_put_4 : decode cX1_put 4 = .ok (.invokevirtual 48, 3) := by decide +kernel
theorem eX1_put_4 : dec cX1_put 4 (.invokevirtual 48) 3 7 := ⟨dX1_put_4, rfl⟩
theorem dX1_put_7 : decode cX1_put 7 = .ok (.ifCond .ne 7, 3) := by decide +kernel
theorem eX1_put_7 : dec cX1_put 7 (.ifCond .ne 7) 3 10 := ⟨dX1_put_7, rfl⟩
theorem dX1_put_10 : decode cX1_put 10 = .ok (.iconst 1, 1) := by decide +kernel
theorem eX1_put_10 : dec cX1_put 10 (.iconst 1) 1 11 := ⟨dX1_put_10, rfl⟩
theorem dX1_put_11 : decode cX1_put 11 = .ok (.goto 4, 3) := by decide +kernel
theorem eX1_put_11 : dec cX1_put 11 (.goto 4) 3 14 := ⟨dX1_put_11, rfl⟩
theorem dX1_put_14 : decode cX1_put 14 = .ok (.iconst 0, 1) := by decide +kernel
theorem eX1_put_14 : dec cX1_put 14 (.iconst 0) 1 15 := ⟨dX1_put_14, rfl⟩
theorem dX1_put_15 : decode cX1_put 15 = .ok (.invokevirtual 52, 3) := by decide +kernel
theorem eX1_put_15 : dec cX1_put 15 (.invokevirtual 52) 3 18 := ⟨dX1_put_15, rfl⟩
theorem dX1_put_18 : decode cX1_put 18 = .ok (.ifCond .ne 21, 3) := by decide +kernel
theorem eX1_put_18 : dec cX1_put 18 (.ifCond .ne 21) 3 21 := ⟨dX1_put_18, rfl⟩
theorem dX1_put_21 : decode cX1_put 21 = .ok (.aload_n 0, 1) := by decide +kernel
theorem eX1_put_21 : dec cX1_put 21 (.aload_n 0) 1 22 := ⟨dX1_put_21, rfl⟩
theorem dX1_put_22 : decode cX1_put 22 = .ok (.getfield 7, 3) := by decide +kernel
theorem eX1_put_22 : dec cX1_put 22 (.getfield 7) 3 25 := ⟨dX1_put_22, rfl⟩
theorem dX1_put_25 : decode cX1_put 25 = .ok (.aload_n 0, 1) := by decide +kernel
theorem eX1_put_25 : dec cX1_put 25 (.aload_n 0) 1 26 := ⟨dX1_put_25, rfl⟩
theorem dX1_put_26 : decode cX1_put 26 = .ok (.getfield 35, 3) := by decide +kernel
theorem eX1_put_26 : dec cX1_put 26 (.getfield 35) 3 29 := ⟨dX1_put_26, rfl⟩
theorem dX1_put_29 : decode cX1_put 29 = .ok (.iload_n 2, 1) := by decide +kernel
theorem eX1_put_29 : dec cX1_put 29 (.iload_n 2) 1 30 := ⟨dX1_put_29, rfl⟩
theorem dX1_put_30 : decode cX1_put 30 = .ok (.imul, 1) := by decide +kernel
theorem eX1_put_30 : dec cX1_put 30 .imul 1 31 := ⟨dX1_put_30, rfl⟩
theorem dX1_put_31 : decode cX1_put 31 = .ok (.iload_n 1, 1) := by decide +kernel
theorem eX1_put_31 : dec cX1_put 31 (.iload_n 1) 1 32 := ⟨dX1_put_31, rfl⟩
theorem dX1_put_32 : decode cX1_put 32 = .ok (.iadd, 1) := by decide +kernel
theorem eX1_put_32 : dec cX1_put 32 .iadd 1 33 := ⟨dX1_put_32, rfl⟩
theorem dX1_put_33 : decode cX1_put 33 = .ok (.iload_n 3, 1) := by decide +kernel
theorem eX1_put_33 : dec cX1_put 33 (.iload_n 3) 1 34 := ⟨dX1_put_33, rfl⟩
theorem dX1_put_34 : decode cX1_put 34 = .ok (.sipush 255, 3) := by decide +kernel
theorem eX1_put_34 : dec cX1_put 34 (.sipush 255) 3 37 := ⟨dX1_put_34, rfl⟩
theorem dX1_put_37 : decode cX1_put 37 = .ok (.iand, 1) := by decide +kernel
theorem eX1_put_37 : dec cX1_put 37 .iand 1 38 := ⟨dX1_put_37, rfl⟩
theorem dX1_put_38 : decode cX1_put 38 = .ok (.iastore, 1) := by decide +kernel
theorem eX1_put_38 : dec cX1_put 38 .iastore 1 39 := ⟨dX1_put_38, rfl⟩
theorem dX1_put_39 : decode cX1_put 39 = .ok (.return_, 1) := by decide +kernel
theorem eX1_put_39 : dec cX1_put 39 .return_ 1 40 := ⟨dX1_put_39, rfl⟩
set_option maxRecDepth 20000 in
theorem ggX1_grey_X1_isOn : GoodIn wsX1_grey wsX1_isOn := goodIn_r _ [7, 2, 8, 14, 15, 16, 17, 18, 19, 20, 21, 22, 23, 24, 25, 26, 27, 28] (by decide +kernel) (by decide +kernel)
set_option maxRecDepth 20000 in
theorem gX1_grey_X1_isOn : GoodIn wsX1_grey (wsV RX1 48 RX1 yX1_isOn wsX1_isOn) := goodIn_app (goodIn_of _ (by decide +kernel)) ggX1_grey_X1_isOn
set_option maxRecDepth 20000 in
theorem ggX1_grey_X1_refused : GoodIn wsX1_grey wsX1_refused := goodIn_r _ [12, 13, 14, 15, 16, 17, 18, 19, 20, 21, 22, 23, 24, 25, 26, 27, 28] (by decide +kernel) (by decide +kernel)
set_option maxRecDepth 20000 in
theorem gX1_grey_X1_refused : GoodIn wsX1_grey (wsV RX1 52 RX1 yX1_refused wsX1_refused) := goodIn_app (goodIn_of _ (by decide +kernel)) ggX1_grey_X1_refused
theorem dX1_grey_0 : decode cX1_grey 0 = .ok (.aload_n 0, 1) := by decide +kernel
theorem eX1_grey_0 : dec cX1_grey 0 (.aload_n 0) 1 1 := ⟨dX1_grey_0, rfl⟩
theorem dX1_grey_1 : decode cX1_grey 1 = .ok (.aload_n 0, 1) := by decide +kernel
theorem eX1_grey_1 : dec cX1_grey 1 (.aload_n 0) 1 2 := ⟨dX1_grey_1, rfl⟩
theorem dX1_grey_2 : decode cX1_grey 2 = .ok (.iload_n 1, 1) := by decide +kernel
theorem eX1_grey_2 : dec cX1_grey 2 (.iload_n 1) 1 3 := ⟨dX1_grey_2, rfl⟩
theorem dX1_grey_3 : decode cX1_grey 3 = .ok (.iload_n 2, 1) := by decide +kernel
theorem eX1_grey_3 : dec cX1_grey 3 (.iload_n 2) 1 4 := ⟨dX1_grey_3, rfl⟩
theorem dX1_grey_4 : decode cX1_grey 4 = .ok (.invokevirtual 48, 3) := by decide +kernel
theorem eX1_grey_4 : dec cX1_grey 4 (.invokevirtual 48) 3 7 := ⟨dX1_grey_4, rfl⟩
theorem dX1_grey_7 : decode cX1_grey 7 = .ok (.ifCond .ne 7, 3) := by decide +kernel
theorem eX1_grey_7 : dec cX1_grey 7 (.ifCond .ne 7) 3 10 := ⟨dX1_grey_7, rfl⟩
theorem dX1_grey_10 : decode cX1_grey 10 = .ok (.iconst 1, 1) := by decide +kernel
theorem eX1_grey_10 : dec cX1_grey 10 (.iconst 1) 1 11 := ⟨dX1_grey_10, rfl⟩
theorem dX1_grey_11 : decode cX1_grey 11 = .ok (.goto 4, 3) := by decide +kernel
theorem eX1_grey_11 : dec cX1_grey 11 (.goto 4) 3 14 := ⟨dX1_grey_11, rfl⟩
theorem dX1_grey_14 : decode cX1_grey 14 = .ok (.iconst 0, 1) := by decide +kernel
theorem eX1_grey_14 : dec cX1_grey 14 (.iconst 0) 1 15 := ⟨dX1_grey_14, rfl⟩
theorem dX1_grey_15 : decode cX1_grey 15 = .ok (.invokevirtual 52, 3) := by decide +kernel
theorem eX1_grey_15 : dec cX1_grey 15 (.invokevirtual 52) 3 18 := ⟨dX1_grey_15, rfl⟩
theorem dX1_grey_18 : decode cX1_grey 18 = .ok (.ifCond .eq 7, 3) := by decide +kernel
theorem eX1_grey_18 : dec cX1_grey 18 (.ifCond .eq 7) 3 21 := ⟨dX1_grey_18, rfl⟩
theorem dX1_grey_21 : decode cX1_grey 21 = .ok (.iconst 0, 1) := by decide +kernel
theorem eX1_grey_21 : dec cX1_grey 21 (.iconst 0) 1 22 := ⟨dX1_grey_21, rfl⟩
theorem dX1_grey_22 : decode cX1_grey 22 = .ok (.goto 16, 3) := by decide +kernel
theorem eX1_grey_22 : dec cX1_grey 22 (.goto 16) 3 25 := ⟨dX1_grey_22, rfl⟩
theorem dX1_grey_25 : decode cX1_grey 25 = .ok (.aload_n 0, 1) := by decide +kernel
theorem eX1_grey_25 : dec cX1_grey 25 (.aload_n 0) 1 26 := ⟨dX1_grey_25, rfl⟩
theorem dX1_grey_26 : decode cX1_grey 26 = .ok (.getfield 7, 3) := by decide +kernel
theorem eX1_grey_26 : dec cX1_grey 26 (.getfield 7) 3 29 := ⟨dX1_grey_26, rfl⟩
theorem dX1_grey_29 : decode cX1_grey 29 = .ok (.aload_n 0, 1) := by decide +kernel
theorem eX1_grey_29 : dec cX1_grey 29 (.aload_n 0) 1 30 := ⟨dX1_grey_29, rfl⟩
theorem dX1_grey_30 : decode cX1_grey 30 = .ok (.getfield 35, 3) := by decide +kernel
theorem eX1_grey_30 : dec cX1_grey 30 (.getfield 35) 3 33 := ⟨dX1_grey_30, rfl⟩
theorem dX1_grey_33 : decode cX1_grey 33 = .ok (.iload_n 2, 1) := by decide +kernel
theorem eX1_grey_33 : dec cX1_grey 33 (.iload_n 2) 1 34 := ⟨dX1_grey_33, rfl⟩
theorem dX1_grey_34 : decode cX1_grey 34 = .ok (.imul, 1) := by decide +kernel
theorem eX1_grey_34 : dec cX1_grey 34 .imul 1 35 := ⟨dX1_grey_34, rfl⟩
theorem dX1_grey_35 : decode cX1_grey 35 = .ok (.iload_n 1, 1) := by decide +kernel
theorem eX1_grey_35 : dec cX1_grey 35 (.iload_n 1) 1 36 := ⟨dX1_grey_35, rfl⟩
theorem dX1_grey_36 : decode cX1_grey 36 = .ok (.iadd, 1) := by decide +kernel
theorem eX1_grey_36 : dec cX1_grey 36 .iadd 1 37 := ⟨dX1_grey_36, rfl⟩
theorem dX1_grey_37 : decode cX1_grey 37 = .ok (.iaload, 1) := by decide +kernel
theorem eX1_grey_37 : dec cX1_grey 37 .iaload 1 38 := ⟨dX1_grey_37, rfl⟩
theorem dX1_grey_38 : decode cX1_grey 38 = .ok (.ireturn, 1) := by decide +kernel
theorem eX1_grey_38 : dec cX1_grey 38 .ireturn 1 39 := ⟨dX1_grey_38, rfl⟩
theorem dX1_spread_0 : decode cX1_spread 0 = .ok (.iconst 0, 1) := by decide +kernel
theorem eX1_spread_0 : dec cX1_spread 0 (.iconst 0) 1 1 := ⟨dX1_spread_0, rfl⟩
theorem dX1_spread_1 : decode cX1_spread 1 = .ok (.istore_n 3, 1) := by decide +kernel
theorem eX1_spread_1 : dec cX1_spread 1 (.istore_n 3) 1 2 := ⟨dX1_spread_1, rfl⟩
theorem dX1_spread_2 : decode cX1_spread 2 = .ok (.iconst 0, 1) := by decide +kernel
theorem eX1_spread_2 : dec cX1_spread 2 (.iconst 0) 1 3 := ⟨dX1_spread_2, rfl⟩
theorem dX1_spread_3 : decode cX1_spread 3 = .ok (.istore 4, 2) := by decide +kernel
theorem eX1_spread_3 : dec cX1_spread 3 (.istore 4) 2 5 := ⟨dX1_spread_3, rfl⟩
theorem dX1_spread_5 : decode cX1_spread 5 = .ok (.iload_n 1, 1) := by decide +kernel
theorem eX1_spread_5 : dec cX1_spread 5 (.iload_n 1) 1 6 := ⟨dX1_spread_5, rfl⟩
theorem dX1_spread_6 : decode cX1_spread 6 = .ok (.istore 5, 2) := by decide +kernel
theorem eX1_spread_6 : dec cX1_spread 6 (.istore 5) 2 8 := ⟨dX1_spread_6, rfl⟩
theorem dX1_spread_8 : decode cX1_spread 8 = .ok (.iload 5, 2) := by decide +kernel
theorem eX1_spread_8 : dec cX1_spread 8 (.iload 5) 2 10 := ⟨dX1_spread_8, rfl⟩
theorem dX1_spread_10 : decode cX1_spread 10 = .ok (.iload_n 2, 1) := by decide +kernel
theorem eX1_spread_10 : dec cX1_spread 10 (.iload_n 2) 1 11 := ⟨dX1_spread_10, rfl⟩
theorem dX1_spread_11 : decode cX1_spread 11 = .ok (.if_icmp .gt 34, 3) := by decide +kernel
theorem eX1_spread_11 : dec cX1_spread 11 (.if_icmp .gt 34) 3 14 := ⟨dX1_spread_11, rfl⟩
theorem dX1_spread_14 : decode cX1_spread 14 = .ok (.iload_n 3, 1) := by decide +kernel
theorem eX1_spread_14 : dec cX1_spread 14 (.iload_n 3) 1 15 := ⟨dX1_spread_14, rfl⟩
theorem dX1_spread_15 : decode cX1_spread 15 = .ok (.aload_n 0, 1) := by decide +kernel
theorem eX1_spread_15 : dec cX1_spread 15 (.aload_n 0) 1 16 := ⟨dX1_spread_15, rfl⟩
theorem dX1_spread_16 : decode cX1_spread 16 = .ok (.getfield 16, 3) := by decide +kernel
theorem eX1_spread_16 : dec cX1_spread 16 (.getfield 16) 3 19 := ⟨dX1_spread_16, rfl⟩
theorem dX1_spread_19 : decode cX1_spread 19 = .ok (.iload 5, 2) := by decide +kernel
theorem eX1_spread_19 : dec cX1_spread 19 (.iload 5) 2 21 := ⟨dX1_spread_19, rfl⟩
theorem dX1_spread_21 : decode cX1_spread 21 = .ok (.iaload, 1) := by decide +kernel
theorem eX1_spread_21 : dec cX1_spread 21 .iaload 1 22 := ⟨dX1_spread_21, rfl⟩
theorem dX1_spread_22 : decode cX1_spread 22 = .ok (.iadd, 1) := by decide +kernel
theorem eX1_spread_22 : dec cX1_spread 22 .iadd 1 23 := ⟨dX1_spread_22, rfl⟩
theorem dX1_spread_23 : decode cX1_spread 23 = .ok (.istore_n 3, 1) := by decide +kernel
theorem eX1_spread_23 : dec cX1_spread 23 (.istore_n 3) 1 24 := ⟨dX1_spread_23, rfl⟩
theorem dX1_spread_24 : decode cX1_spread 24 = .ok (.iload 4, 2) := by decide +kernel
theorem eX1_spread_24 : dec cX1_spread 24 (.iload 4) 2 26 := ⟨dX1_spread_24, rfl⟩
theorem dX1_spread_26 : decode cX1_spread 26 = .ok (.iload 5, 2) := by decide +kernel
theorem eX1_spread_26 : dec cX1_spread 26 (.iload 5) 2 28 := ⟨dX1_spread_26, rfl⟩
theorem dX1_spread_28 : decode cX1_spread 28 = .ok (.aload_n 0, 1) := by decide +kernel
theorem eX1_spread_28 : dec cX1_spread 28 (.aload_n 0) 1 29 := ⟨dX1_spread_28, rfl⟩
theorem dX1_spread_29 : decode cX1_spread 29 = .ok (.getfield 16, 3) := by decide +kernel
theorem eX1_spread_29 : dec cX1_spread 29 (.getfield 16) 3 32 := ⟨dX1_spread_29, rfl⟩
theorem dX1_spread_32 : decode cX1_spread 32 = .ok (.iload 5, 2) := by decide +kernel
theorem eX1_spread_32 : dec cX1_spread 32 (.iload 5) 2 34 := ⟨dX1_spread_32, rfl⟩
theorem dX1_spread_34 : decode cX1_spread 34 = .ok (.iaload, 1) := by decide +kernel
theorem eX1_spread_34 : dec cX1_spread 34 .iaload 1 35 := ⟨dX1_spread_34, rfl⟩
theorem dX1_spread_35 : decode cX1_spread 35 = .ok (.imul, 1) := by decide +kernel
theorem eX1_spread_35 : dec cX1_spread 35 .imul 1 36 := ⟨dX1_spread_35, rfl⟩
theorem dX1_spread_36 : decode cX1_spread 36 = .ok (.iadd, 1) := by decide +kernel
theorem eX1_spread_36 : dec cX1_spread 36 .iadd 1 37 := ⟨dX1_spread_36, rfl⟩
theorem dX1_spread_37 : decode cX1_spread 37 = .ok (.istore 4, 2) := by decide +kernel
theorem eX1_spread_37 : dec cX1_spread 37 (.istore 4) 2 39 := ⟨dX1_spread_37, rfl⟩
theorem dX1_spread_39 : decode cX1_spread 39 = .ok (.iinc 5 1, 3) := by decide +kernel
theorem eX1_spread_39 : dec cX1_spread 39 (.iinc 5 1) 3 42 := ⟨dX1_spread_39, rfl⟩
theorem dX1_spread_42 : decode cX1_spread 42 = .ok (.goto (-34), 3) := by decide +kernel
theorem eX1_spread_42 : dec cX1_spread 42 (.goto (-34)) 3 45 := ⟨dX1_spread_42, rfl⟩
theorem dX1_spread_45 : decode cX1_spread 45 = .ok (.iload_n 3, 1) := by decide +kernel
theorem eX1_spread_45 : dec cX1_spread 45 (.iload_n 3) 1 46 := ⟨dX1_spread_45, rfl⟩
theorem dX1_spread_46 : decode cX1_spread 46 = .ok (.ifCond .ne 7, 3) := by decide +kernel
theorem eX1_spread_46 : dec cX1_spread 46 (.ifCond .ne 7) 3 49 := ⟨dX1_spread_46, rfl⟩
theorem dX1_spread_49 : decode cX1_spread 49 = .ok (.iconst 0, 1) := by decide +kernel
theorem eX1_spread_49 : dec cX1_spread 49 (.iconst 0) 1 50 := ⟨dX1_spread_49, rfl⟩
theorem dX1_spread_50 : decode cX1_spread 50 = .ok (.goto 7, 3) := by decide +kernel
theorem eX1_spread_50 : dec cX1_spread 50 (.goto 7) 3 53 := ⟨dX1_spread_50, rfl⟩
theorem dX1_spread_53 : decode cX1_spread 53 = .ok (.iload 4, 2) := by decide +kernel
theorem eX1_spread_53 : dec cX1_spread 53 (.iload 4) 2 55 := ⟨dX1_spread_53, rfl⟩
theorem dX1_spread_55 : decode cX1_spread 55 = .ok (.iload_n 3, 1) := by decide +kernel
theorem eX1_spread_55 : dec cX1_spread 55 (.iload_n 3) 1 56 := ⟨dX1_spread_55, rfl⟩
theorem dX1_spread_56 : decode cX1_spread 56 = .ok (.idiv, 1) := by decide +kernel
theorem eX1_spread_56 : dec cX1_spread 56 .idiv 1 57 := ⟨dX1_spread_56, rfl⟩
theorem dX1_spread_57 : decode cX1_spread 57 = .ok (.istore 5, 2) := by decide +kernel
theorem eX1_spread_57 : dec cX1_spread 57 (.istore 5) 2 59 := ⟨dX1_spread_57, rfl⟩
theorem dX1_spread_59 : decode cX1_spread 59 = .ok (.iconst 0, 1) := by decide +kernel
theorem eX1_spread_59 : dec cX1_spread 59 (.iconst 0) 1 60 := ⟨dX1_spread_59, rfl⟩
theorem dX1_spread_60 : decode cX1_spread 60 = .ok (.istore 6, 2) := by decide +kernel
theorem eX1_spread_60 : dec cX1_spread 60 (.istore 6) 2 62 := ⟨dX1_spread_60, rfl⟩
theorem dX1_spread_62 : decode cX1_spread 62 = .ok (.iload_n 1, 1) := by decide +kernel
theorem eX1_spread_62 : dec cX1_spread 62 (.iload_n 1) 1 63 := ⟨dX1_spread_62, rfl⟩
theorem dX1_spread_63 : decode cX1_spread 63 = .ok (.istore 7, 2) := by decide +kernel
theorem eX1_spread_63 : dec cX1_spread 63 (.istore 7) 2 65 := ⟨dX1_spread_63, rfl⟩
theorem dX1_spread_65 : decode cX1_spread 65 = .ok (.iload 7, 2) := by decide +kernel
theorem eX1_spread_65 : dec cX1_spread 65 (.iload 7) 2 67 := ⟨dX1_spread_65, rfl⟩
theorem dX1_spread_67 : decode cX1_spread 67 = .ok (.iload_n 2, 1) := by decide +kernel
theorem eX1_spread_67 : dec cX1_spread 67 (.iload_n 2) 1 68 := ⟨dX1_spread_67, rfl⟩
theorem dX1_spread_68 : decode cX1_spread 68 = .ok (.if_icmp .gt 42, 3) := by decide +kernel
theorem eX1_spread_68 : dec cX1_spread 68 (.if_icmp .gt 42) 3 71 := ⟨dX1_spread_68, rfl⟩
theorem dX1_spread_71 : decode cX1_spread 71 = .ok (.iload 6, 2) := by decide +kernel
theorem eX1_spread_71 : dec cX1_spread 71 (.iload 6) 2 73 := ⟨dX1_spread_71, rfl⟩
theorem dX1_spread_73 : decode cX1_spread 73 = .ok (.aload_n 0, 1) := by decide +kernel
theorem eX1_spread_73 : dec cX1_spread 73 (.aload_n 0) 1 74 := ⟨dX1_spread_73, rfl⟩
theorem dX1_spread_74 : decode cX1_spread 74 = .ok (.getfield 16, 3) := by decide +kernel
theorem eX1_spread_74 : dec cX1_spread 74 (.getfield 16) 3 77 := ⟨dX1_spread_74, rfl⟩
theorem dX1_spread_77 : decode cX1_spread 77 = .ok (.iload 7, 2) := by decide +kernel
theorem eX1_spread_77 : dec cX1_spread 77 (.iload 7) 2 79 := ⟨dX1_spread_77, rfl⟩
theorem dX1_spread_79 : decode cX1_spread 79 = .ok (.iaload, 1) := by decide +kernel
theorem eX1_spread_79 : dec cX1_spread 79 .iaload 1 80 := ⟨dX1_spread_79, rfl⟩
theorem dX1_spread_80 : decode cX1_spread 80 = .ok (.iload 7, 2) := by decide +kernel
theorem eX1_spread_80 : dec cX1_spread 80 (.iload 7) 2 82 := ⟨dX1_spread_80, rfl⟩
theorem dX1_spread_82 : decode cX1_spread 82 = .ok (.iload 5, 2) := by decide +kernel
theorem eX1_spread_82 : dec cX1_spread 82 (.iload 5) 2 84 := ⟨dX1_spread_82, rfl⟩
theorem dX1_spread_84 : decode cX1_spread 84 = .ok (.if_icmp .ge 11, 3) := by decide +kernel
theorem eX1_spread_84 : dec cX1_spread 84 (.if_icmp .ge 11) 3 87 := ⟨dX1_spread_84, rfl⟩
theorem dX1_spread_87 : decode cX1_spread 87 = .ok (.iload 5, 2) := by decide +kernel
theorem eX1_spread_87 : dec cX1_spread 87 (.iload 5) 2 89 := ⟨dX1_spread_87, rfl⟩
theorem dX1_spread_89 : decode cX1_spread 89 = .ok (.iload 7, 2) := by decide +kernel
theorem eX1_spread_89 : dec cX1_spread 89 (.iload 7) 2 91 := ⟨dX1_spread_89, rfl⟩
theorem dX1_spread_91 : decode cX1_spread 91 = .ok (.isub, 1) := by decide +kernel
theorem eX1_spread_91 : dec cX1_spread 91 .isub 1 92 := ⟨dX1_spread_91, rfl⟩
theorem dX1_spread_92 : decode cX1_spread 92 = .ok (.goto 8, 3) := by decide +kernel
theorem eX1_spread_92 : dec cX1_spread 92 (.goto 8) 3 95 := ⟨dX1_spread_92, rfl⟩
theorem dX1_spread_95 : decode cX1_spread 95 = .ok (.iload 7, 2) := by decide +kernel
theorem eX1_spread_95 : dec cX1_spread 95 (.iload 7) 2 97 := ⟨dX1_spread_95, rfl⟩
theorem dX1_spread_97 : decode cX1_spread 97 = .ok (.iload 5, 2) := by decide +kernel
theorem eX1_spread_97 : dec cX1_spread 97 (.iload 5) 2 99 := ⟨dX1_spread_97, rfl⟩
theorem dX1_spread_99 : decode cX1_spread 99 = .ok (.isub, 1) := by decide +kernel
theorem eX1_spread_99 : dec cX1_spread 99 .isub 1 100 := ⟨dX1_spread_99, rfl⟩
theorem dX1_spread_100 : decode cX1_spread 100 = .ok (.imul, 1) := by decide +kernel
theorem eX1_spread_100 : dec cX1_spread 100 .imul 1 101 := ⟨dX1_spread_100, rfl⟩
theorem dX1_spread_101 : decode cX1_spread 101 = .ok (.iadd, 1) := by decide +kernel
theorem eX1_spread_101 : dec cX1_spread 101 .iadd 1 102 := ⟨dX1_spread_101, rfl⟩
theorem dX1_spread_102 : decode cX1_spread 102 = .ok (.istore 6, 2) := by decide +kernel
theorem eX1_spread_102 : dec cX1_spread 102 (.istore 6) 2 104 := ⟨dX1_spread_102, rfl⟩
theorem dX1_spread_104 : decode cX1_spread 104 = .ok (.iinc 7 1, 3) := by decide +kernel
theorem eX1_spread_104 : dec cX1_spread 104 (.iinc 7 1) 3 107 := ⟨dX1_spread_104, rfl⟩
theorem dX1_spread_107 : decode cX1_spread 107 = .ok (.goto (-42), 3) := by decide +kernel
theorem eX1_spread_107 : dec cX1_spread 107 (.goto (-42)) 3 110 := ⟨dX1_spread_107, rfl⟩
theorem dX1_spread_110 : decode cX1_spread 110 = .ok (.iload 6, 2) := by decide +kernel
theorem eX1_spread_110 : dec cX1_spread 110 (.iload 6) 2 112 := ⟨dX1_spread_110, rfl⟩
theorem dX1_spread_112 : decode cX1_spread 112 = .ok (.ireturn, 1) := by decide +kernel
theorem eX1_spread_112 : dec cX1_spread 112 .ireturn 1 113 := ⟨dX1_spread_112, rfl⟩
set_option maxRecDepth 20000 in
theorem ggX1_thresholdNow_X1_spread : GoodIn wsX1_thresholdNow wsX1_spread := goodIn_r _ [8, 1, 9, 10, 11, 12, 13, 14, 15, 16, 17, 18, 19, 20, 21, 22, 23] (by decide +kernel) (by decide +kernel)
set_option maxRecDepth 20000 in
theorem gX1_thresholdNow_X1_spread : GoodIn wsX1_thresholdNow (wsV RX1 56 RX1 yX1_spread wsX1_spread) := goodIn_app (goodIn_of _ (by decide +kernel)) ggX1_thresholdNow_X1_spread
theorem dX1_thresholdNow_0 : decode cX1_thresholdNow 0 = .ok (.iconst 0, 1) := by decide +kernel
theorem eX1_thresholdNow_0 : dec cX1_thresholdNow 0 (.iconst 0) 1 1 := ⟨dX1_thresholdNow_0, rfl⟩
theorem dX1_thresholdNow_1 : decode cX1_thresholdNow 1 = .ok (.istore_n 1, 1) := by decide +kernel
theorem eX1_thresholdNow_1 : dec cX1_thresholdNow 1 (.istore_n 1) 1 2 := ⟨dX1_thresholdNow_1, rfl⟩
theorem dX1_thresholdNow_2 : decode cX1_thresholdNow 2 = .ok (.iload_n 1, 1) := by decide +kernel
theorem eX1_thresholdNow_2 : dec cX1_thresholdNow 2 (.iload_n 1) 1 3 := ⟨dX1_thresholdNow_2, rfl⟩
theorem dX1_thresholdNow_3 : decode cX1_thresholdNow 3 = .ok (.sipush 256, 3) := by decide +kernel
theorem eX1_thresholdNow_3 : dec cX1_thresholdNow 3 (.sipush 256) 3 6 := ⟨dX1_thresholdNow_3, rfl⟩
theorem dX1_thresholdNow_6 : decode cX1_thresholdNow 6 = .ok (.if_icmp .ge 16, 3) := by decide +kernel
theorem eX1_thresholdNow_6 : dec cX1_thresholdNow 6 (.if_icmp .ge 16) 3 9 := ⟨dX1_thresholdNow_6, rfl⟩
theorem dX1_thresholdNow_9 : decode cX1_thresholdNow 9 = .ok (.aload_n 0, 1) := by decide +kernel
theorem eX1_thresholdNow_9 : dec cX1_thresholdNow 9 (.aload_n 0) 1 10 := ⟨dX1_thresholdNow_9, rfl⟩
theorem dX1_thresholdNow_10 : decode cX1_thresholdNow 10 = .ok (.getfield 16, 3) := by decide +kernel
theorem eX1_thresholdNow_10 : dec cX1_thresholdNow 10 (.getfield 16) 3 13 := ⟨dX1_thresholdNow_10, rfl⟩
theorem dX1_thresholdNow_13 : decode cX1_thresholdNow 13 = .ok (.iload_n 1, 1) := by decide +kernel
theorem eX1_thresholdNow_13 : dec cX1_thresholdNow 13 (.iload_n 1) 1 14 := ⟨dX1_thresholdNow_13, rfl⟩
theorem dX1_thresholdNow_14 : decode cX1_thresholdNow 14 = .ok (.iconst 0, 1) := by decide +kernel
theorem eX1_thresholdNow_14 : dec cX1_thresholdNow 14 (.iconst 0) 1 15 := ⟨dX1_thresholdNow_14, rfl⟩
theorem dX1_thresholdNow_15 : decode cX1_thresholdNow 15 = .ok (.iastore, 1) := by decide +kernel
theorem eX1_thresholdNow_15 : dec cX1_thresholdNow 15 .iastore 1 16 := ⟨dX1_thresholdNow_15, rfl⟩
theorem dX1_thresholdNow_16 : decode cX1_thresholdNow 16 = .ok (.iinc 1 1, 3) := by decide +kernel
theorem eX1_thresholdNow_16 : dec cX1_thresholdNow 16 (.iinc 1 1) 3 19 := ⟨dX1_thresholdNow_16, rfl⟩
theorem dX1_thresholdNow_19 : decode cX1_thresholdNow 19 = .ok (.goto (-17), 3) := by decide +kernel
theorem eX1_thresholdNow_19 : dec cX1_thresholdNow 19 (.goto (-17)) 3 22 := ⟨dX1_thresholdNow_19, rfl⟩
theorem dX1_thresholdNow_22 : decode cX1_thresholdNow 22 = .ok (.iconst 0, 1) := by decide +kernel
theorem eX1_thresholdNow_22 : dec cX1_thresholdNow 22 (.iconst 0) 1 23 := ⟨dX1_thresholdNow_22, rfl⟩
theorem dX1_thresholdNow_23 : decode cX1_thresholdNow 23 = .ok (.istore_n 1, 1) := by decide +kernel
theorem eX1_thresholdNow_23 : dec cX1_thresholdNow 23 (.istore_n 1) 1 24 := ⟨dX1_thresholdNow_23, rfl⟩
theorem dX1_thresholdNow_24 : decode cX1_thresholdNow 24 = .ok (.iload_n 1, 1) := by decide +kernel
theorem eX1_thresholdNow_24 : dec cX1_thresholdNow 24 (.iload_n 1) 1 25 := ⟨dX1_thresholdNow_24, rfl⟩
theorem dX1_thresholdNow_25 : decode cX1_thresholdNow 25 = .ok (.aload_n 0, 1) := by decide +kernel
theorem eX1_thresholdNow_25 : dec cX1_thresholdNow 25 (.aload_n 0) 1 26 := ⟨dX1_thresholdNow_25, rfl⟩
theorem dX1_thresholdNow_26 : decode cX1_thresholdNow 26 = .ok (.getfield 42, 3) := by decide +kernel
theorem eX1_thresholdNow_26 : dec cX1_thresholdNow 26 (.getfield 42) 3 29 := ⟨dX1_thresholdNow_26, rfl⟩
theorem dX1_thresholdNow_29 : decode cX1_thresholdNow 29 = .ok (.if_icmp .ge 24, 3) := by decide +kernel
theorem eX1_thresholdNow_29 : dec cX1_thresholdNow 29 (.if_icmp .ge 24) 3 32 := ⟨dX1_thresholdNow_29, rfl⟩
theorem dX1_thresholdNow_32 : decode cX1_thresholdNow 32 = .ok (.aload_n 0, 1) := by decide +kernel
theorem eX1_thresholdNow_32 : dec cX1_thresholdNow 32 (.aload_n 0) 1 33 := ⟨dX1_thresholdNow_32, rfl⟩
theorem dX1_thresholdNow_33 : decode cX1_thresholdNow 33 = .ok (.getfield 16, 3) := by decide +kernel
theorem eX1_thresholdNow_33 : dec cX1_thresholdNow 33 (.getfield 16) 3 36 := ⟨dX1_thresholdNow_33, rfl⟩
theorem dX1_thresholdNow_36 : decode cX1_thresholdNow 36 = .ok (.aload_n 0, 1) := by decide +kernel
theorem eX1_thresholdNow_36 : dec cX1_thresholdNow 36 (.aload_n 0) 1 37 := ⟨dX1_thresholdNow_36, rfl⟩
theorem dX1_thresholdNow_37 : decode cX1_thresholdNow 37 = .ok (.getfield 7, 3) := by decide +kernel
theorem eX1_thresholdNow_37 : dec cX1_thresholdNow 37 (.getfield 7) 3 40 := ⟨dX1_thresholdNow_37, rfl⟩
theorem dX1_thresholdNow_40 : decode cX1_thresholdNow 40 = .ok (.iload_n 1, 1) := by decide +kernel
theorem eX1_thresholdNow_40 : dec cX1_thresholdNow 40 (.iload_n 1) 1 41 := ⟨dX1_thresholdNow_40, rfl⟩
theorem dX1_thresholdNow_41 : decode cX1_thresholdNow 41 = .ok (.iaload, 1) := by decide +kernel
theorem eX1_thresholdNow_41 : dec cX1_thresholdNow 41 .iaload 1 42 := ⟨dX1_thresholdNow_41, rfl⟩
theorem dX1_thresholdNow_42 : decode cX1_thresholdNow 42 = .ok (.dup2, 1) := by decide +kernel
theorem eX1_thresholdNow_42 : dec cX1_thresholdNow 42 .dup2 1 43 := ⟨dX1_thresholdNow_42, rfl⟩
theorem dX1_thresholdNow_43 : decode cX1_thresholdNow 43 = .ok (.iaload, 1) := by decide +kernel
theorem eX1_thresholdNow_43 : dec cX1_thresholdNow 43 .iaload 1 44 := ⟨dX1_thresholdNow_43, rfl⟩
theorem dX1_thresholdNow_44 : decode cX1_thresholdNow 44 = .ok (.iconst 1, 1) := by decide +kernel
theorem eX1_thresholdNow_44 : dec cX1_thresholdNow 44 (.iconst 1) 1 45 := ⟨dX1_thresholdNow_44, rfl⟩
theorem dX1_thresholdNow_45 : decode cX1_thresholdNow 45 = .ok (.iadd, 1) := by decide +kernel
theorem eX1_thresholdNow_45 : dec cX1_thresholdNow 45 .iadd 1 46 := ⟨dX1_thresholdNow_45, rfl⟩
theorem dX1_thresholdNow_46 : decode cX1_thresholdNow 46 = .ok (.iastore, 1) := by decide +kernel
theorem eX1_thresholdNow_46 : dec cX1_thresholdNow 46 .iastore 1 47 := ⟨dX1_thresholdNow_46, rfl⟩
theorem dX1_thresholdNow_47 : decode cX1_thresholdNow 47 = .ok (.iinc 1 1, 3) := by decide +kernel
theorem eX1_thresholdNow_47 : dec cX1_thresholdNow 47 (.iinc 1 1) 3 50 := ⟨dX1_thresholdNow_47, rfl⟩
theorem dX1_thresholdNow_50 : decode cX1_thresholdNow 50 = .ok (.goto (-26), 3) := by decide +kernel
theorem eX1_thresholdNow_50 : dec cX1_thresholdNow 50 (.goto (-26)) 3 53 := ⟨dX1_thresholdNow_50, rfl⟩
theorem dX1_thresholdNow_53 : decode cX1_thresholdNow 53 = .ok (.iconst 0, 1) := by decide +kernel
theorem eX1_thresholdNow_53 : dec cX1_thresholdNow 53 (.iconst 0) 1 54 := ⟨dX1_thresholdNow_53, rfl⟩
theorem dX1_thresholdNow_54 : decode cX1_thresholdNow 54 = .ok (.istore_n 1, 1) := by decide +kernel
theorem eX1_thresholdNow_54 : dec cX1_thresholdNow 54 (.istore_n 1) 1 55 := ⟨dX1_thresholdNow_54, rfl⟩
theorem dX1_thresholdNow_55 : decode cX1_thresholdNow 55 = .ok (.aload_n 0, 1) := by decide +kernel
theorem eX1_thresholdNow_55 : dec cX1_thresholdNow 55 (.aload_n 0) 1 56 := ⟨dX1_thresholdNow_55, rfl⟩
theorem dX1_thresholdNow_56 : decode cX1_thresholdNow 56 = .ok (.iconst 0, 1) := by decide +kernel
theorem eX1_thresholdNow_56 : dec cX1_thresholdNow 56 (.iconst 0) 1 57 := ⟨dX1_thresholdNow_56, rfl⟩
theorem dX1_thresholdNow_57 : decode cX1_thresholdNow 57 = .ok (.iconst 0, 1) := by decide +kernel
theorem eX1_thresholdNow_57 : dec cX1_thresholdNow 57 (.iconst 0) 1 58 := ⟨dX1_thresholdNow_57, rfl⟩
theorem dX1_thresholdNow_58 : decode cX1_thresholdNow 58 = .ok (.invokevirtual 56, 3) := by decide +kernel
theorem eX1_thresholdNow_58 : dec cX1_thresholdNow 58 (.invokevirtual 56) 3 61 := ⟨dX1_thresholdNow_58, rfl⟩
theorem dX1_thresholdNow_61 : decode cX1_thresholdNow 61 = .ok (.aload_n 0, 1) := by decide +kernel
theorem eX1_thresholdNow_61 : dec cX1_thresholdNow 61 (.aload_n 0) 1 62 := ⟨dX1_thresholdNow_61, rfl⟩
theorem dX1_thresholdNow_62 : decode cX1_thresholdNow 62 = .ok (.iconst 1, 1) := by decide +kernel
theorem eX1_thresholdNow_62 : dec cX1_thresholdNow 62 (.iconst 1) 1 63 := ⟨dX1_thresholdNow_62, rfl⟩
theorem dX1_thresholdNow_63 : decode cX1_thresholdNow 63 = .ok (.sipush 255, 3) := by decide +kernel
theorem eX1_thresholdNow_63 : dec cX1_thresholdNow 63 (.sipush 255) 3 66 := ⟨dX1_thresholdNow_63, rfl⟩
theorem dX1_thresholdNow_66 : decode cX1_thresholdNow 66 = .ok (.invokevirtual 56, 3) := by decide +kernel
theorem eX1_thresholdNow_66 : dec cX1_thresholdNow 66 (.invokevirtual 56) 3 69 := ⟨dX1_thresholdNow_66, rfl⟩
theorem dX1_thresholdNow_69 : decode cX1_thresholdNow 69 = .ok (.iadd, 1) := by decide +kernel
theorem eX1_thresholdNow_69 : dec cX1_thresholdNow 69 .iadd 1 70 := ⟨dX1_thresholdNow_69, rfl⟩
theorem dX1_thresholdNow_70 : decode cX1_thresholdNow 70 = .ok (.istore_n 2, 1) := by decide +kernel
theorem eX1_thresholdNow_70 : dec cX1_thresholdNow 70 (.istore_n 2) 1 71 := ⟨dX1_thresholdNow_70, rfl⟩
theorem dX1_thresholdNow_71 : decode cX1_thresholdNow 71 = .ok (.iconst 1, 1) := by decide +kernel
theorem eX1_thresholdNow_71 : dec cX1_thresholdNow 71 (.iconst 1) 1 72 := ⟨dX1_thresholdNow_71, rfl⟩
theorem dX1_thresholdNow_72 : decode cX1_thresholdNow 72 = .ok (.istore_n 3, 1) := by decide +kernel
theorem eX1_thresholdNow_72 : dec cX1_thresholdNow 72 (.istore_n 3) 1 73 := ⟨dX1_thresholdNow_72, rfl⟩
theorem dX1_thresholdNow_73 : decode cX1_thresholdNow 73 = .ok (.iload_n 3, 1) := by decide +kernel
theorem eX1_thresholdNow_73 : dec cX1_thresholdNow 73 (.iload_n 3) 1 74 := ⟨dX1_thresholdNow_73, rfl⟩
theorem dX1_thresholdNow_74 : decode cX1_thresholdNow 74 = .ok (.sipush 255, 3) := by decide +kernel
theorem eX1_thresholdNow_74 : dec cX1_thresholdNow 74 (.sipush 255) 3 77 := ⟨dX1_thresholdNow_74, rfl⟩
theorem dX1_thresholdNow_77 : decode cX1_thresholdNow 77 = .ok (.if_icmp .ge 53, 3) := by decide +kernel
theorem eX1_thresholdNow_77 : dec cX1_thresholdNow 77 (.if_icmp .ge 53) 3 80 := ⟨dX1_thresholdNow_77, rfl⟩
theorem dX1_thresholdNow_80 : decode cX1_thresholdNow 80 = .ok (.aload_n 0, 1) := by decide +kernel
theorem eX1_thresholdNow_80 : dec cX1_thresholdNow 80 (.aload_n 0) 1 81 := ⟨dX1_thresholdNow_80, rfl⟩
theorem dX1_thresholdNow_81 : decode cX1_thresholdNow 81 = .ok (.iconst 0, 1) := by decide +kernel
theorem eX1_thresholdNow_81 : dec cX1_thresholdNow 81 (.iconst 0) 1 82 := ⟨dX1_thresholdNow_81, rfl⟩
theorem dX1_thresholdNow_82 : decode cX1_thresholdNow 82 = .ok (.iload_n 3, 1) := by decide +kernel
theorem eX1_thresholdNow_82 : dec cX1_thresholdNow 82 (.iload_n 3) 1 83 := ⟨dX1_thresholdNow_82, rfl⟩
theorem dX1_thresholdNow_83 : decode cX1_thresholdNow 83 = .ok (.invokevirtual 56, 3) := by decide +kernel
theorem eX1_thresholdNow_83 : dec cX1_thresholdNow 83 (.invokevirtual 56) 3 86 := ⟨dX1_thresholdNow_83, rfl⟩
theorem dX1_thresholdNow_86 : decode cX1_thresholdNow 86 = .ok (.aload_n 0, 1) := by decide +kernel
theorem eX1_thresholdNow_86 : dec cX1_thresholdNow 86 (.aload_n 0) 1 87 := ⟨dX1_thresholdNow_86, rfl⟩
theorem dX1_thresholdNow_87 : decode cX1_thresholdNow 87 = .ok (.iload_n 3, 1) := by decide +kernel
theorem eX1_thresholdNow_87 : dec cX1_thresholdNow 87 (.iload_n 3) 1 88 := ⟨dX1_thresholdNow_87, rfl⟩
theorem dX1_thresholdNow_88 : decode cX1_thresholdNow 88 = .ok (.iconst 1, 1) := by decide +kernel
theorem eX1_thresholdNow_88 : dec cX1_thresholdNow 88 (.iconst 1) 1 89 := ⟨dX1_thresholdNow_88, rfl⟩
theorem dX1_thresholdNow_89 : decode cX1_thresholdNow 89 = .ok (.iadd, 1) := by decide +kernel
theorem eX1_thresholdNow_89 : dec cX1_thresholdNow 89 .iadd 1 90 := ⟨dX1_thresholdNow_89, rfl⟩
theorem dX1_thresholdNow_90 : decode cX1_thresholdNow 90 = .ok (.sipush 255, 3) := by decide +kernel
theorem eX1_thresholdNow_90 : dec cX1_thresholdNow 90 (.sipush 255) 3 93 := ⟨dX1_thresholdNow_90, rfl⟩
theorem dX1_thresholdNow_93 : decode cX1_thresholdNow 93 = .ok (.invokevirtual 56, 3) := by decide +kernel
theorem eX1_thresholdNow_93 : dec cX1_thresholdNow 93 (.invokevirtual 56) 3 96 := ⟨dX1_thresholdNow_93, rfl⟩
theorem dX1_thresholdNow_96 : decode cX1_thresholdNow 96 = .ok (.iadd, 1) := by decide +kernel
theorem eX1_thresholdNow_96 : dec cX1_thresholdNow 96 .iadd 1 97 := ⟨dX1_thresholdNow_96, rfl⟩
theorem dX1_thresholdNow_97 : decode cX1_thresholdNow 97 = .ok (.istore 4, 2) := by decide +kernel
theorem eX1_thresholdNow_97 : dec cX1_thresholdNow 97 (.istore 4) 2 99 := ⟨dX1_thresholdNow_97, rfl⟩
theorem dX1_thresholdNow_99 : decode cX1_thresholdNow 99 = .ok (.iload 4, 2) := by decide +kernel
theorem eX1_thresholdNow_99 : dec cX1_thresholdNow 99 (.iload 4) 2 101 := ⟨dX1_thresholdNow_99, rfl⟩
theorem dX1_thresholdNow_101 : decode cX1_thresholdNow 101 = .ok (.iload_n 2, 1) := by decide +kernel
theorem eX1_thresholdNow_101 : dec cX1_thresholdNow 101 (.iload_n 2) 1 102 := ⟨dX1_thresholdNow_101, rfl⟩
theorem dX1_thresholdNow_102 : decode cX1_thresholdNow 102 = .ok (.if_icmp .ge 7, 3) := by decide +kernel
theorem eX1_thresholdNow_102 : dec cX1_thresholdNow 102 (.if_icmp .ge 7) 3 105 := ⟨dX1_thresholdNow_102, rfl⟩
theorem dX1_thresholdNow_105 : decode cX1_thresholdNow 105 = .ok (.iload_n 3, 1) := by decide +kernel
theorem eX1_thresholdNow_105 : dec cX1_thresholdNow 105 (.iload_n 3) 1 106 := ⟨dX1_thresholdNow_105, rfl⟩
theorem dX1_thresholdNow_106 : decode cX1_thresholdNow 106 = .ok (.goto 4, 3) := by decide +kernel
theorem eX1_thresholdNow_106 : dec cX1_thresholdNow 106 (.goto 4) 3 109 := ⟨dX1_thresholdNow_106, rfl⟩
theorem dX1_thresholdNow_109 : decode cX1_thresholdNow 109 = .ok (.iload_n 1, 1) := by decide +kernel
theorem eX1_thresholdNow_109 : dec cX1_thresholdNow 109 (.iload_n 1) 1 110 := ⟨dX1_thresholdNow_109, rfl⟩
theorem dX1_thresholdNow_110 : decode cX1_thresholdNow 110 = .ok (.istore_n 1, 1) := by decide +kernel
theorem eX1_thresholdNow_110 : dec cX1_thresholdNow 110 (.istore_n 1) 1 111 := ⟨dX1_thresholdNow_110, rfl⟩
theorem dX1_thresholdNow_111 : decode cX1_thresholdNow 111 = .ok (.iload 4, 2) := by decide +kernel
theorem eX1_thresholdNow_111 : dec cX1_thresholdNow 111 (.iload 4) 2 113 := ⟨dX1_thresholdNow_111, rfl⟩
theorem dX1_thresholdNow_113 : decode cX1_thresholdNow 113 = .ok (.iload_n 2, 1) := by decide +kernel
theorem eX1_thresholdNow_113 : dec cX1_thresholdNow 113 (.iload_n 2) 1 114 := ⟨dX1_thresholdNow_113, rfl⟩
theorem dX1_thresholdNow_114 : decode cX1_thresholdNow 114 = .ok (.if_icmp .ge 8, 3) := by decide +kernel
theorem eX1_thresholdNow_114 : dec cX1_thresholdNow 114 (.if_icmp .ge 8) 3 117 := ⟨dX1_thresholdNow_114, rfl⟩
theorem dX1_thresholdNow_117 : decode cX1_thresholdNow 117 = .ok (.iload 4, 2) := by decide +kernel
theorem eX1_thresholdNow_117 : dec cX1_thresholdNow 117 (.iload 4) 2 119 := ⟨dX1_thresholdNow_117, rfl⟩
theorem dX1_thresholdNow_119 : decode cX1_thresholdNow 119 = .ok (.goto 4, 3) := by decide +kernel
theorem eX1_thresholdNow_119 : dec cX1_thresholdNow 119 (.goto 4) 3 122 := ⟨dX1_thresholdNow_119, rfl⟩
theorem dX1_thresholdNow_122 : decode cX1_thresholdNow 122 = .ok (.iload_n 2, 1) := by decide +kernel
theorem eX1_thresholdNow_122 : dec cX1_thresholdNow 122 (.iload_n 2) 1 123 := ⟨dX1_thresholdNow_122, rfl⟩
theorem dX1_thresholdNow_123 : decode cX1_thresholdNow 123 = .ok (.istore_n 2, 1) := by decide +kernel
theorem eX1_thresholdNow_123 : dec cX1_thresholdNow 123 (.istore_n 2) 1 124 := ⟨dX1_thresholdNow_123, rfl⟩
theorem dX1_thresholdNow_124 : decode cX1_thresholdNow 124 = .ok (.iinc 3 1, 3) := by decide +kernel
theorem eX1_thresholdNow_124 : dec cX1_thresholdNow 124 (.iinc 3 1) 3 127 := ⟨dX1_thresholdNow_124, rfl⟩
theorem dX1_thresholdNow_127 : decode cX1_thresholdNow 127 = .ok (.goto (-54), 3) := by decide +kernel
theorem eX1_thresholdNow_127 : dec cX1_thresholdNow 127 (.goto (-54)) 3 130 := ⟨dX1_thresholdNow_127, rfl⟩
theorem dX1_thresholdNow_130 : decode cX1_thresholdNow 130 = .ok (.iload_n 1, 1) := by decide +kernel
theorem eX1_thresholdNow_130 : dec cX1_thresholdNow 130 (.iload_n 1) 1 131 := ⟨dX1_thresholdNow_130, rfl⟩
theorem dX1_thresholdNow_131 : decode cX1_thresholdNow 131 = .ok (.ireturn, 1) := by decide +kernel
theorem eX1_thresholdNow_131 : dec cX1_thresholdNow 131 .ireturn 1 132 := ⟨dX1_thresholdNow_131, rfl⟩
set_option maxRecDepth 20000 in
theorem ggX1_threshold_X1_thresholdNow : GoodIn wsX1_threshold wsX1_thresholdNow := goodIn_r _ [6, 7, 8, 9, 10, 11, 12, 5, 13, 14, 15, 16, 17, 18, 19, 20, 21, 22, 23, 24, 25, 26, 27, 28] (by decide +kernel) (by decide +kernel)
set_option maxRecDepth 20000 in
theorem gX1_threshold_X1_thresholdNow : GoodIn wsX1_threshold (wsV RX1 60 RX1 yX1_thresholdNow wsX1_thresholdNow) := goodIn_app (goodIn_of _ (by decide +kernel)) ggX1_threshold_X1_thresholdNow
theorem dX1_threshold_0 : decode cX1_threshold 0 = .ok (.aload_n 0, 1) := by decide +kernel
theorem eX1_threshold_0 : dec cX1_threshold 0 (.aload_n 0) 1 1 := ⟨dX1_threshold_0, rfl⟩
theorem dX1_threshold_1 : decode cX1_threshold 1 = .ok (.iconst 0, 1) := by decide +kernel
theorem eX1_threshold_1 : dec cX1_threshold 1 (.iconst 0) 1 2 := ⟨dX1_threshold_1, rfl⟩
theorem dX1_threshold_2 : decode cX1_threshold 2 = .ok (.putfield 45, 3) := by decide +kernel
theorem eX1_threshold_2 : dec cX1_threshold 2 (.putfield 45) 3 5 := ⟨dX1_threshold_2, rfl⟩
theorem dX1_threshold_5 : decode cX1_threshold 5 = .ok (.aload_n 0, 1) := by decide +kernel
theorem eX1_threshold_5 : dec cX1_threshold 5 (.aload_n 0) 1 6 := ⟨dX1_threshold_5, rfl⟩
theorem dX1_threshold_6 : decode cX1_threshold 6 = .ok (.invokevirtual 60, 3) := by decide +kernel
theorem eX1_threshold_6 : dec cX1_threshold 6 (.invokevirtual 60) 3 9 := ⟨dX1_threshold_6, rfl⟩
theorem dX1_threshold_9 : decode cX1_threshold 9 = .ok (.ireturn, 1) := by decide +kernel
theorem eX1_threshold_9 : dec cX1_threshold 9 .ireturn 1 10 := ⟨dX1_threshold_9, rfl⟩
theorem dX1_isInverted_0 : decode cX1_isInverted 0 = .ok (.iconst 0, 1) := by decide +kernel
theorem eX1_isInverted_0 : dec cX1_isInverted 0 (.iconst 0) 1 1 := ⟨dX1_isInverted_0, rfl⟩
theorem dX1_isInverted_1 : decode cX1_isInverted 1 = .ok (.istore_n 2, 1) := by decide +kernel
theorem eX1_isInverted_1 : dec cX1_isInverted 1 (.istore_n 2) 1 2 := ⟨dX1_isInverted_1, rfl⟩
theorem dX1_isInverted_2 : decode cX1_isInverted 2 = .ok (.iconst 0, 1) := by decide +kernel
theorem eX1_isInverted_2 : dec cX1_isInverted 2 (.iconst 0) 1 3 := ⟨dX1_isInverted_2, rfl⟩
theorem dX1_isInverted_3 : decode cX1_isInverted 3 = .ok (.istore_n 3, 1) := by decide +kernel
theorem eX1_isInverted_3 : dec cX1_isInverted 3 (.istore_n 3) 1 4 := ⟨dX1_isInverted_3, rfl⟩
theorem dX1_isInverted_4 : decode cX1_isInverted 4 = .ok (.iload_n 3, 1) := by decide +kernel
theorem eX1_isInverted_4 : dec cX1_isInverted 4 (.iload_n 3) 1 5 := ⟨dX1_isInverted_4, rfl⟩
theorem dX1_isInverted_5 : decode cX1_isInverted 5 = .ok (.aload_n 0, 1) := by decide +kernel
theorem eX1_isInverted_5 : dec cX1_isInverted 5 (.aload_n 0) 1 6 := ⟨dX1_isInverted_5, rfl⟩
theorem dX1_isInverted_6 : decode cX1_isInverted 6 = .ok (.getfield 42, 3) := by decide +kernel
theorem eX1_isInverted_6 : dec cX1_isInverted 6 (.getfield 42) 3 9 := ⟨dX1_isInverted_6, rfl⟩
theorem dX1_isInverted_9 : decode cX1_isInverted 9 = .ok (.if_icmp .ge 27, 3) := by decide +kernel
theorem eX1_isInverted_9 : dec cX1_isInverted 9 (.if_icmp .ge 27) 3 12 := ⟨dX1_isInverted_9, rfl⟩
theorem dX1_isInverted_12 : decode cX1_isInverted 12 = .ok (.aload_n 0, 1) := by decide +kernel
theorem eX1_isInverted_12 : dec cX1_isInverted 12 (.aload_n 0) 1 13 := ⟨dX1_isInverted_12, rfl⟩
theorem dX1_isInverted_13 : decode cX1_isInverted 13 = .ok (.getfield 7, 3) := by decide +kernel
theorem eX1_isInverted_13 : dec cX1_isInverted 13 (.getfield 7) 3 16 := ⟨dX1_isInverted_13, rfl⟩
theorem dX1_isInverted_16 : decode cX1_isInverted 16 = .ok (.iload_n 3, 1) := by decide +kernel
theorem eX1_isInverted_16 : dec cX1_isInverted 16 (.iload_n 3) 1 17 := ⟨dX1_isInverted_16, rfl⟩
theorem dX1_isInverted_17 : decode cX1_isInverted 17 = .ok (.iaload, 1) := by decide +kernel
theorem eX1_isInverted_17 : dec cX1_isInverted 17 .iaload 1 18 := ⟨dX1_isInverted_17, rfl⟩
theorem dX1_isInverted_18 : decode cX1_isInverted 18 = .ok (.iload_n 1, 1) := by decide +kernel
theorem eX1_isInverted_18 : dec cX1_isInverted 18 (.iload_n 1) 1 19 := ⟨dX1_isInverted_18, rfl⟩
theorem dX1_isInverted_19 : decode cX1_isInverted 19 = .ok (.if_icmp .gt 9, 3) := by decide +kernel
theorem eX1_isInverted_19 : dec cX1_isInverted 19 (.if_icmp .gt 9) 3 22 := ⟨dX1_isInverted_19, rfl⟩
theorem dX1_isInverted_22 : decode cX1_isInverted 22 = .ok (.iload_n 2, 1) := by decide +kernel
theorem eX1_isInverted_22 : dec cX1_isInverted 22 (.iload_n 2) 1 23 := ⟨dX1_isInverted_22, rfl⟩
theorem dX1_isInverted_23 : decode cX1_isInverted 23 = .ok (.iconst 1, 1) := by decide +kernel
theorem eX1_isInverted_23 : dec cX1_isInverted 23 (.iconst 1) 1 24 := ⟨dX1_isInverted_23, rfl⟩
theorem dX1_isInverted_24 : decode cX1_isInverted 24 = .ok (.iadd, 1) := by decide +kernel
theorem eX1_isInverted_24 : dec cX1_isInverted 24 .iadd 1 25 := ⟨dX1_isInverted_24, rfl⟩
theorem dX1_isInverted_25 : decode cX1_isInverted 25 = .ok (.goto 4, 3) := by decide +kernel
theorem eX1_isInverted_25 : dec cX1_isInverted 25 (.goto 4) 3 28 := ⟨dX1_isInverted_25, rfl⟩
theorem dX1_isInverted_28 : decode cX1_isInverted 28 = .ok (.iload_n 2, 1) := by decide +kernel
theorem eX1_isInverted_28 : dec cX1_isInverted 28 (.iload_n 2) 1 29 := ⟨dX1_isInverted_28, rfl⟩
theorem dX1_isInverted_29 : decode cX1_isInverted 29 = .ok (.istore_n 2, 1) := by decide +kernel
theorem eX1_isInverted_29 : dec cX1_isInverted 29 (.istore_n 2) 1 30 := ⟨dX1_isInverted_29, rfl⟩
theorem dX1_isInverted_30 : decode cX1_isInverted 30 = .ok (.iinc 3 1, 3) := by decide +kernel
theorem eX1_isInverted_30 : dec cX1_isInverted 30 (.iinc 3 1) 3 33 := ⟨dX1_isInverted_30, rfl⟩
theorem dX1_isInverted_33 : decode cX1_isInverted 33 = .ok (.goto (-29), 3) := by decide +kernel
theorem eX1_isInverted_33 : dec cX1_isInverted 33 (.goto (-29)) 3 36 := ⟨dX1_isInverted_33, rfl⟩
theorem dX1_isInverted_36 : decode cX1_isInverted 36 = .ok (.iconst 2, 1) := by decide +kernel
theorem eX1_isInverted_36 : dec cX1_isInverted 36 (.iconst 2) 1 37 := ⟨dX1_isInverted_36, rfl⟩
theorem dX1_isInverted_37 : decode cX1_isInverted 37 = .ok (.iload_n 2, 1) := by decide +kernel
theorem eX1_isInverted_37 : dec cX1_isInverted 37 (.iload_n 2) 1 38 := ⟨dX1_isInverted_37, rfl⟩
theorem dX1_isInverted_38 : decode cX1_isInverted 38 = .ok (.imul, 1) := by decide +kernel
theorem eX1_isInverted_38 : dec cX1_isInverted 38 .imul 1 39 := ⟨dX1_isInverted_38, rfl⟩
theorem dX1_isInverted_39 : decode cX1_isInverted 39 = .ok (.aload_n 0, 1) := by decide +kernel
theorem eX1_isInverted_39 : dec cX1_isInverted 39 (.aload_n 0) 1 40 := ⟨dX1_isInverted_39, rfl⟩
theorem dX1_isInverted_40 : decode cX1_isInverted 40 = .ok (.getfield 42, 3) := by decide +kernel
theorem eX1_isInverted_40 : dec cX1_isInverted 40 (.getfield 42) 3 43 := ⟨dX1_isInverted_40, rfl⟩
theorem dX1_isInverted_43 : decode cX1_isInverted 43 = .ok (.if_icmp .le 7, 3) := by decide +kernel
theorem eX1_isInverted_43 : dec cX1_isInverted 43 (.if_icmp .le 7) 3 46 := ⟨dX1_isInverted_43, rfl⟩
theorem dX1_isInverted_46 : decode cX1_isInverted 46 = .ok (.iconst 1, 1) := by decide +kernel
theorem eX1_isInverted_46 : dec cX1_isInverted 46 (.iconst 1) 1 47 := ⟨dX1_isInverted_46, rfl⟩
theorem dX1_isInverted_47 : decode cX1_isInverted 47 = .ok (.goto 4, 3) := by decide +kernel
theorem eX1_isInverted_47 : dec cX1_isInverted 47 (.goto 4) 3 50 := ⟨dX1_isInverted_47, rfl⟩
theorem dX1_isInverted_50 : decode cX1_isInverted 50 = .ok (.iconst 0, 1) := by decide +kernel
theorem eX1_isInverted_50 : dec cX1_isInverted 50 (.iconst 0) 1 51 := ⟨dX1_isInverted_50, rfl⟩
theorem dX1_isInverted_51 : decode cX1_isInverted 51 = .ok (.ireturn, 1) := by decide +kernel
theorem eX1_isInverted_51 : dec cX1_isInverted 51 .ireturn 1 52 := ⟨dX1_isInverted_51, rfl⟩
set_option maxRecDepth 20000 in
theorem ggX1_inverted_X1_thresholdNow : GoodIn wsX1_inverted wsX1_thresholdNow := goodIn_r _ [6, 7, 8, 9, 10, 11, 12, 5, 13, 18, 19, 20, 21, 22, 23, 24, 25, 26, 27, 28, 29, 30, 31, 32] (by decide +kernel) (by decide +kernel)
set_option maxRecDepth 20000 in
theorem gX1_inverted_X1_thresholdNow : GoodIn wsX1_inverted (wsV RX1 60 RX1 yX1_thresholdNow wsX1_thresholdNow) := goodIn_app (goodIn_of _ (by decide +kernel)) ggX1_inverted_X1_thresholdNow
set_option maxRecDepth 20000 in
theorem ggX1_inverted_X1_isInverted : GoodIn wsX1_inverted wsX1_isInverted := goodIn_r _ [17, 8, 9, 18, 19, 20, 21, 22, 23, 24, 25, 26, 27, 28, 29, 30, 31, 32] (by decide +kernel) (by decide +kernel)
set_option maxRecDepth 20000 in
theorem gX1_inverted_X1_isInverted : GoodIn wsX1_inverted (wsV RX1 64 RX1 yX1_isInverted wsX1_isInverted) := goodIn_app (goodIn_of _ (by decide +kernel)) ggX1_inverted_X1_isInverted
theorem dX1_inverted_0 : decode cX1_inverted 0 = .ok (.aload_n 0, 1) := by decide +kernel
theorem eX1_inverted_0 : dec cX1_inverted 0 (.aload_n 0) 1 1 := ⟨dX1_inverted_0, rfl⟩
theorem dX1_inverted_1 : decode cX1_inverted 1 = .ok (.iconst 0, 1) := by decide +kernel
theorem eX1_inverted_1 : dec cX1_inverted 1 (.iconst 0) 1 2 := ⟨dX1_inverted_1, rfl⟩
theorem dX1_inverted_2 : decode cX1_inverted 2 = .ok (.putfield 45, 3) := by decide +kernel
theorem eX1_inverted_2 : dec cX1_inverted 2 (.putfield 45) 3 5 := ⟨dX1_inverted_2, rfl⟩
theorem dX1_inverted_5 : decode cX1_inverted 5 = .ok (.aload_n 0, 1) := by decide +kernel
theorem eX1_inverted_5 : dec cX1_inverted 5 (.aload_n 0) 1 6 := ⟨dX1_inverted_5, rfl⟩
theorem dX1_inverted_6 : decode cX1_inverted 6 = .ok (.aload_n 0, 1) := by decide +kernel
theorem eX1_inverted_6 : dec cX1_inverted 6 (.aload_n 0) 1 7 := ⟨dX1_inverted_6, rfl⟩
theorem dX1_inverted_7 : decode cX1_inverted 7 = .ok (.invokevirtual 60, 3) := by decide +kernel
theorem eX1_inverted_7 : dec cX1_inverted 7 (.invokevirtual 60) 3 10 := ⟨dX1_inverted_7, rfl⟩
theorem dX1_inverted_10 : decode cX1_inverted 10 = .ok (.invokevirtual 64, 3) := by decide +kernel
theorem eX1_inverted_10 : dec cX1_inverted 10 (.invokevirtual 64) 3 13 := ⟨dX1_inverted_10, rfl⟩
theorem dX1_inverted_13 : decode cX1_inverted 13 = .ok (.ireturn, 1) := by decide +kernel
theorem eX1_inverted_13 : dec cX1_inverted 13 .ireturn 1 14 := ⟨dX1_inverted_13, rfl⟩
set_option maxRecDepth 20000 in
theorem ggX1_darken_X1_thresholdNow : GoodIn wsX1_darken wsX1_thresholdNow := goodIn_r _ [8, 9, 1, 2, 10, 11, 12, 7, 13, 18, 19, 20, 21, 22, 23, 24, 25, 26, 27, 28, 29, 30, 31, 32] (by decide +kernel) (by decide +kernel)
set_option maxRecDepth 20000 in
theorem gX1_darken_X1_thresholdNow : GoodIn wsX1_darken (wsV RX1 60 RX1 yX1_thresholdNow wsX1_thresholdNow) := goodIn_app (goodIn_of _ (by decide +kernel)) ggX1_darken_X1_thresholdNow
set_option maxRecDepth 20000 in
theorem ggX1_darken_X1_isInverted : GoodIn wsX1_darken wsX1_isInverted := goodIn_r _ [17, 1, 2, 18, 19, 20, 21, 22, 23, 24, 25, 26, 27, 28, 29, 30, 31, 32] (by decide +kernel) (by decide +kernel)
set_option maxRecDepth 20000 in
theorem gX1_darken_X1_isInverted : GoodIn wsX1_darken (wsV RX1 64 RX1 yX1_isInverted wsX1_isInverted) := goodIn_app (goodIn_of _ (by decide +kernel)) ggX1_darken_X1_isInverted
theorem dX1_darken_0 : decode cX1_darken 0 = .ok (.aload_n 0, 1) := by decide +kernel
theorem eX1_darken_0 : dec cX1_darken 0 (.aload_n 0) 1 1 := ⟨dX1_darken_0, rfl⟩
theorem dX1_darken_1 : decode cX1_darken 1 = .ok (.invokevirtual 60, 3) := by decide +kernel
theorem eX1_darken_1 : dec cX1_darken 1 (.invokevirtual 60) 3 4 := ⟨dX1_darken_1, rfl⟩
theorem dX1_darken_4 : decode cX1_darken 4 = .ok (.istore_n 1, 1) := by decide +kernel
theorem eX1_darken_4 : dec cX1_darken 4 (.istore_n 1) 1 5 := ⟨dX1_darken_4, rfl⟩
theorem dX1_darken_5 : decode cX1_darken 5 = .ok (.aload_n 0, 1) := by decide +kernel
theorem eX1_darken_5 : dec cX1_darken 5 (.aload_n 0) 1 6 := ⟨dX1_darken_5, rfl⟩
theorem dX1_darken_6 : decode cX1_darken 6 = .ok (.iload_n 1, 1) := by decide +kernel
theorem eX1_darken_6 : dec cX1_darken 6 (.iload_n 1) 1 7 := ⟨dX1_darken_6, rfl⟩
theorem dX1_darken_7 : decode cX1_darken 7 = .ok (.invokevirtual 64, 3) := by decide +kernel
theorem eX1_darken_7 : dec cX1_darken 7 (.invokevirtual 64) 3 10 := ⟨dX1_darken_7, rfl⟩
theorem dX1_darken_10 : decode cX1_darken 10 = .ok (.istore_n 2, 1) := by decide +kernel
theorem eX1_darken_10 : dec cX1_darken 10 (.istore_n 2) 1 11 := ⟨dX1_darken_10, rfl⟩
theorem dX1_darken_11 : decode cX1_darken 11 = .ok (.iconst 0, 1) := by decide +kernel
theorem eX1_darken_11 : dec cX1_darken 11 (.iconst 0) 1 12 := ⟨dX1_darken_11, rfl⟩
theorem dX1_darken_12 : decode cX1_darken 12 = .ok (.istore_n 3, 1) := by decide +kernel
theorem eX1_darken_12 : dec cX1_darken 12 (.istore_n 3) 1 13 := ⟨dX1_darken_12, rfl⟩
theorem dX1_darken_13 : decode cX1_darken 13 = .ok (.iload_n 3, 1) := by decide +kernel
theorem eX1_darken_13 : dec cX1_darken 13 (.iload_n 3) 1 14 := ⟨dX1_darken_13, rfl⟩
theorem dX1_darken_14 : decode cX1_darken 14 = .ok (.aload_n 0, 1) := by decide +kernel
theorem eX1_darken_14 : dec cX1_darken 14 (.aload_n 0) 1 15 := ⟨dX1_darken_14, rfl⟩
theorem dX1_darken_15 : decode cX1_darken 15 = .ok (.getfield 42, 3) := by decide +kernel
theorem eX1_darken_15 : dec cX1_darken 15 (.getfield 42) 3 18 := ⟨dX1_darken_15, rfl⟩
theorem dX1_darken_18 : decode cX1_darken 18 = .ok (.if_icmp .ge 43, 3) := by decide +kernel
theorem eX1_darken_18 : dec cX1_darken 18 (.if_icmp .ge 43) 3 21 := ⟨dX1_darken_18, rfl⟩
theorem dX1_darken_21 : decode cX1_darken 21 = .ok (.aload_n 0, 1) := by decide +kernel
theorem eX1_darken_21 : dec cX1_darken 21 (.aload_n 0) 1 22 := ⟨dX1_darken_21, rfl⟩
theorem dX1_darken_22 : decode cX1_darken 22 = .ok (.getfield 7, 3) := by decide +kernel
theorem eX1_darken_22 : dec cX1_darken 22 (.getfield 7) 3 25 := ⟨dX1_darken_22, rfl⟩
theorem dX1_darken_25 : decode cX1_darken 25 = .ok (.iload_n 3, 1) := by decide +kernel
theorem eX1_darken_25 : dec cX1_darken 25 (.iload_n 3) 1 26 := ⟨dX1_darken_25, rfl⟩
theorem dX1_darken_26 : decode cX1_darken 26 = .ok (.iaload, 1) := by decide +kernel
theorem eX1_darken_26 : dec cX1_darken 26 .iaload 1 27 := ⟨dX1_darken_26, rfl⟩
theorem dX1_darken_27 : decode cX1_darken 27 = .ok (.iload_n 1, 1) := by decide +kernel
theorem eX1_darken_27 : dec cX1_darken 27 (.iload_n 1) 1 28 := ⟨dX1_darken_27, rfl⟩
theorem dX1_darken_28 : decode cX1_darken 28 = .ok (.if_icmp .gt 7, 3) := by decide +kernel
theorem eX1_darken_28 : dec cX1_darken 28 (.if_icmp .gt 7) 3 31 := ⟨dX1_darken_28, rfl⟩
theorem dX1_darken_31 : decode cX1_darken 31 = .ok (.iconst 1, 1) := by decide +kernel
theorem eX1_darken_31 : dec cX1_darken 31 (.iconst 1) 1 32 := ⟨dX1_darken_31, rfl⟩
theorem dX1_darken_32 : decode cX1_darken 32 = .ok (.goto 4, 3) := by decide +kernel
theorem eX1_darken_32 : dec cX1_darken 32 (.goto 4) 3 35 := ⟨dX1_darken_32, rfl⟩
theorem dX1_darken_35 : decode cX1_darken 35 = .ok (.iconst 0, 1) := by decide +kernel
theorem eX1_darken_35 : dec cX1_darken 35 (.iconst 0) 1 36 := ⟨dX1_darken_35, rfl⟩
theorem dX1_darken_36 : decode cX1_darken 36 = .ok (.istore 4, 2) := by decide +kernel
theorem eX1_darken_36 : dec cX1_darken 36 (.istore 4) 2 38 := ⟨dX1_darken_36, rfl⟩
theorem dX1_darken_38 : decode cX1_darken 38 = .ok (.aload_n 0, 1) := by decide +kernel
theorem eX1_darken_38 : dec cX1_darken 38 (.aload_n 0) 1 39 := ⟨dX1_darken_38, rfl⟩
theorem dX1_darken_39 : decode cX1_darken 39 = .ok (.getfield 13, 3) := by decide +kernel
theorem eX1_darken_39 : dec cX1_darken 39 (.getfield 13) 3 42 := ⟨dX1_darken_39, rfl⟩
theorem dX1_darken_42 : decode cX1_darken 42 = .ok (.iload_n 3, 1) := by decide +kernel
theorem eX1_darken_42 : dec cX1_darken 42 (.iload_n 3) 1 43 := ⟨dX1_darken_42, rfl⟩
theorem dX1_darken_43 : decode cX1_darken 43 = .ok (.iload 4, 2) := by decide +kernel
theorem eX1_darken_43 : dec cX1_darken 43 (.iload 4) 2 45 := ⟨dX1_darken_43, rfl⟩
theorem dX1_darken_45 : decode cX1_darken 45 = .ok (.iload_n 2, 1) := by decide +kernel
theorem eX1_darken_45 : dec cX1_darken 45 (.iload_n 2) 1 46 := ⟨dX1_darken_45, rfl⟩
theorem dX1_darken_46 : decode cX1_darken 46 = .ok (.if_icmp .eq 7, 3) := by decide +kernel
theorem eX1_darken_46 : dec cX1_darken 46 (.if_icmp .eq 7) 3 49 := ⟨dX1_darken_46, rfl⟩
theorem dX1_darken_49 : decode cX1_darken 49 = .ok (.iconst 1, 1) := by decide +kernel
theorem eX1_darken_49 : dec cX1_darken 49 (.iconst 1) 1 50 := ⟨dX1_darken_49, rfl⟩
theorem dX1_darken_50 : decode cX1_darken 50 = .ok (.goto 4, 3) := by decide +kernel
theorem eX1_darken_50 : dec cX1_darken 50 (.goto 4) 3 53 := ⟨dX1_darken_50, rfl⟩
theorem dX1_darken_53 : decode cX1_darken 53 = .ok (.iconst 0, 1) := by decide +kernel
theorem eX1_darken_53 : dec cX1_darken 53 (.iconst 0) 1 54 := ⟨dX1_darken_53, rfl⟩
theorem dX1_darken_54 : decode cX1_darken 54 = .ok (.iastore, 1) := by decide +kernel
theorem eX1_darken_54 : dec cX1_darken 54 .iastore 1 55 := ⟨dX1_darken_54, rfl⟩
theorem dX1_darken_55 : decode cX1_darken 55 = .ok (.iinc 3 1, 3) := by decide +kernel
theorem eX1_darken_55 : dec cX1_darken 55 (.iinc 3 1) 3 58 := ⟨dX1_darken_55, rfl⟩
theorem dX1_darken_58 : decode cX1_darken 58 = .ok (.goto (-45), 3) := by decide +kernel
theorem eX1_darken_58 : dec cX1_darken 58 (.goto (-45)) 3 61 := ⟨dX1_darken_58, rfl⟩
theorem dX1_darken_61 : decode cX1_darken 61 = .ok (.return_, 1) := by decide +kernel
theorem eX1_darken_61 : dec cX1_darken 61 .return_ 1 62 := ⟨dX1_darken_61, rfl⟩
set_option maxRecDepth 20000 in
theorem ggX1_leastAround_X1_isOn : GoodIn wsX1_leastAround wsX1_isOn := goodIn_r _ [8, 2, 9, 10, 11, 12, 13, 14, 15, 16, 17, 18, 19, 20, 21, 22, 23, 24] (by decide +kernel) (by decide +kernel)
set_option maxRecDepth 20000 in
theorem gX1_leastAround_X1_isOn : GoodIn wsX1_leastAround (wsV RX1 48 RX1 yX1_isOn wsX1_isOn) := goodIn_app (goodIn_of _ (by decide +kernel)) ggX1_leastAround_X1_isOn
theorem dX1_leastAround_0 : decode cX1_leastAround 0 = .ok (.aload_n 0, 1) := by decide +kernel
theorem eX1_leastAround_0 : dec cX1_leastAround 0 (.aload_n 0) 1 1 := ⟨dX1_leastAround_0, rfl⟩
theorem dX1_leastAround_1 : decode cX1_leastAround 1 = .ok (.getfield 19, 3) := by decide +kernel
theorem eX1_leastAround_1 : dec cX1_leastAround 1 (.getfield 19) 3 4 := ⟨dX1_leastAround_1, rfl⟩
theorem dX1_leastAround_4 : decode cX1_leastAround 4 = .ok (.iload_n 1, 1) := by decide +kernel
theorem eX1_leastAround_4 : dec cX1_leastAround 4 (.iload_n 1) 1 5 := ⟨dX1_leastAround_4, rfl⟩
theorem dX1_leastAround_5 : decode cX1_leastAround 5 = .ok (.iaload, 1) := by decide +kernel
theorem eX1_leastAround_5 : dec cX1_leastAround 5 .iaload 1 6 := ⟨dX1_leastAround_5, rfl⟩
theorem dX1_leastAround_6 : decode cX1_leastAround 6 = .ok (.istore_n 2, 1) := by decide +kernel
theorem eX1_leastAround_6 : dec cX1_leastAround 6 (.istore_n 2) 1 7 := ⟨dX1_leastAround_6, rfl⟩
theorem dX1_leastAround_7 : decode cX1_leastAround 7 = .ok (.iconst (-1), 1) := by decide +kernel
theorem eX1_leastAround_7 : dec cX1_leastAround 7 (.iconst (-1)) 1 8 := ⟨dX1_leastAround_7, rfl⟩
theorem dX1_leastAround_8 : decode cX1_leastAround 8 = .ok (.istore_n 3, 1) := by decide +kernel
theorem eX1_leastAround_8 : dec cX1_leastAround 8 (.istore_n 3) 1 9 := ⟨dX1_leastAround_8, rfl⟩
theorem dX1_leastAround_9 : decode cX1_leastAround 9 = .ok (.iload_n 3, 1) := by decide +kernel
theorem eX1_leastAround_9 : dec cX1_leastAround 9 (.iload_n 3) 1 10 := ⟨dX1_leastAround_9, rfl⟩
theorem dX1_leastAround_10 : decode cX1_leastAround 10 = .ok (.iconst 2, 1) := by decide +kernel
theorem eX1_leastAround_10 : dec cX1_leastAround 10 (.iconst 2) 1 11 := ⟨dX1_leastAround_10, rfl⟩
theorem dX1_leastAround_11 : decode cX1_leastAround 11 = .ok (.if_icmp .ge 110, 3) := by decide +kernel
theorem eX1_leastAround_11 : dec cX1_leastAround 11 (.if_icmp .ge 110) 3 14 := ⟨dX1_leastAround_11, rfl⟩
theorem dX1_leastAround_14 : decode cX1_leastAround 14 = .ok (.iconst (-1), 1) := by decide +kernel
theorem eX1_leastAround_14 : dec cX1_leastAround 14 (.iconst (-1)) 1 15 := ⟨dX1_leastAround_14, rfl⟩
theorem dX1_leastAround_15 : decode cX1_leastAround 15 = .ok (.istore 4, 2) := by decide +kernel
theorem eX1_leastAround_15 : dec cX1_leastAround 15 (.istore 4) 2 17 := ⟨dX1_leastAround_15, rfl⟩
theorem dX1_leastAround_17 : decode cX1_leastAround 17 = .ok (.iload 4, 2) := by decide +kernel
theorem eX1_leastAround_17 : dec cX1_leastAround 17 (.iload 4) 2 19 := ⟨dX1_leastAround_17, rfl⟩
theorem dX1_leastAround_19 : decode cX1_leastAround 19 = .ok (.iconst 2, 1) := by decide +kernel
theorem eX1_leastAround_19 : dec cX1_leastAround 19 (.iconst 2) 1 20 := ⟨dX1_leastAround_19, rfl⟩
theorem dX1_leastAround_20 : decode cX1_leastAround 20 = .ok (.if_icmp .ge 95, 3) := by decide +kernel
theorem eX1_leastAround_20 : dec cX1_leastAround 20 (.if_icmp .ge 95) 3 23 := ⟨dX1_leastAround_20, rfl⟩
theorem dX1_leastAround_23 : decode cX1_leastAround 23 = .ok (.iload_n 1, 1) := by decide +kernel
theorem eX1_leastAround_23 : dec cX1_leastAround 23 (.iload_n 1) 1 24 := ⟨dX1_leastAround_23, rfl⟩
theorem dX1_leastAround_24 : decode cX1_leastAround 24 = .ok (.aload_n 0, 1) := by decide +kernel
theorem eX1_leastAround_24 : dec cX1_leastAround 24 (.aload_n 0) 1 25 := ⟨dX1_leastAround_24, rfl⟩
theorem dX1_leastAround_25 : decode cX1_leastAround 25 = .ok (.getfield 35, 3) := by decide +kernel
theorem eX1_leastAround_25 : dec cX1_leastAround 25 (.getfield 35) 3 28 := ⟨dX1_leastAround_25, rfl⟩
theorem dX1_leastAround_28 : decode cX1_leastAround 28 = .ok (.irem, 1) := by decide +kernel
theorem eX1_leastAround_28 : dec cX1_leastAround 28 .irem 1 29 := ⟨dX1_leastAround_28, rfl⟩
theorem dX1_leastAround_29 : decode cX1_leastAround 29 = .ok (.iload 4, 2) := by decide +kernel
theorem eX1_leastAround_29 : dec cX1_leastAround 29 (.iload 4) 2 31 := ⟨dX1_leastAround_29, rfl⟩
theorem dX1_leastAround_31 : decode cX1_leastAround 31 = .ok (.iadd, 1) := by decide +kernel
theorem eX1_leastAround_31 : dec cX1_leastAround 31 .iadd 1 32 := ⟨dX1_leastAround_31, rfl⟩
theorem dX1_leastAround_32 : decode cX1_leastAround 32 = .ok (.istore 5, 2) := by decide +kernel
theorem eX1_leastAround_32 : dec cX1_leastAround 32 (.istore 5) 2 34 := ⟨dX1_leastAround_32, rfl⟩
theorem dX1_leastAround_34 : decode cX1_leastAround 34 = .ok (.iload_n 1, 1) := by decide +kernel
theorem eX1_leastAround_34 : dec cX1_leastAround 34 (.iload_n 1) 1 35 := ⟨dX1_leastAround_34, rfl⟩
theorem dX1_leastAround_35 : decode cX1_leastAround 35 = .ok (.aload_n 0, 1) := by decide +kernel
theorem eX1_leastAround_35 : dec cX1_leastAround 35 (.aload_n 0) 1 36 := ⟨dX1_leastAround_35, rfl⟩
theorem dX1_leastAround_36 : decode cX1_leastAround 36 = .ok (.getfield 35, 3) := by decide +kernel
theorem eX1_leastAround_36 : dec cX1_leastAround 36 (.getfield 35) 3 39 := ⟨dX1_leastAround_36, rfl⟩
theorem dX1_leastAround_39 : decode cX1_leastAround 39 = .ok (.idiv, 1) := by decide +kernel
theorem eX1_leastAround_39 : dec cX1_leastAround 39 .idiv 1 40 := ⟨dX1_leastAround_39, rfl⟩
theorem dX1_leastAround_40 : decode cX1_leastAround 40 = .ok (.iload_n 3, 1) := by decide +kernel
theorem eX1_leastAround_40 : dec cX1_leastAround 40 (.iload_n 3) 1 41 := ⟨dX1_leastAround_40, rfl⟩
theorem dX1_leastAround_41 : decode cX1_leastAround 41 = .ok (.iadd, 1) := by decide +kernel
theorem eX1_leastAround_41 : dec cX1_leastAround 41 .iadd 1 42 := ⟨dX1_leastAround_41, rfl⟩
theorem dX1_leastAround_42 : decode cX1_leastAround 42 = .ok (.istore 6, 2) := by decide +kernel
theorem eX1_leastAround_42 : dec cX1_leastAround 42 (.istore 6) 2 44 := ⟨dX1_leastAround_42, rfl⟩
theorem dX1_leastAround_44 : decode cX1_leastAround 44 = .ok (.aload_n 0, 1) := by decide +kernel
theorem eX1_leastAround_44 : dec cX1_leastAround 44 (.aload_n 0) 1 45 := ⟨dX1_leastAround_44, rfl⟩
theorem dX1_leastAround_45 : decode cX1_leastAround 45 = .ok (.iload 5, 2) := by decide +kernel
theorem eX1_leastAround_45 : dec cX1_leastAround 45 (.iload 5) 2 47 := ⟨dX1_leastAround_45, rfl⟩
theorem dX1_leastAround_47 : decode cX1_leastAround 47 = .ok (.iload 6, 2) := by decide +kernel
theorem eX1_leastAround_47 : dec cX1_leastAround 47 (.iload 6) 2 49 := ⟨dX1_leastAround_47, rfl⟩
theorem dX1_leastAround_49 : decode cX1_leastAround 49 = .ok (.invokevirtual 48, 3) := by decide +kernel
theorem eX1_leastAround_49 : dec cX1_leastAround 49 (.invokevirtual 48) 3 52 := ⟨dX1_leastAround_49, rfl⟩
theorem dX1_leastAround_52 : decode cX1_leastAround 52 = .ok (.ifCond .eq 57, 3) := by decide +kernel
theorem eX1_leastAround_52 : dec cX1_leastAround 52 (.ifCond .eq 57) 3 55 := ⟨dX1_leastAround_52, rfl⟩
theorem dX1_leastAround_55 : decode cX1_leastAround 55 = .ok (.aload_n 0, 1) := by decide +kernel
theorem eX1_leastAround_55 : dec cX1_leastAround 55 (.aload_n 0) 1 56 := ⟨dX1_leastAround_55, rfl⟩
theorem dX1_leastAround_56 : decode cX1_leastAround 56 = .ok (.getfield 13, 3) := by decide +kernel
theorem eX1_leastAround_56 : dec cX1_leastAround 56 (.getfield 13) 3 59 := ⟨dX1_leastAround_56, rfl⟩
theorem dX1_leastAround_59 : decode cX1_leastAround 59 = .ok (.aload_n 0, 1) := by decide +kernel
theorem eX1_leastAround_59 : dec cX1_leastAround 59 (.aload_n 0) 1 60 := ⟨dX1_leastAround_59, rfl⟩
theorem dX1_leastAround_60 : decode cX1_leastAround 60 = .ok (.getfield 35, 3) := by decide +kernel
theorem eX1_leastAround_60 : dec cX1_leastAround 60 (.getfield 35) 3 63 := ⟨dX1_leastAround_60, rfl⟩
theorem dX1_leastAround_63 : decode cX1_leastAround 63 = .ok (.iload 6, 2) := by decide +kernel
theorem eX1_leastAround_63 : dec cX1_leastAround 63 (.iload 6) 2 65 := ⟨dX1_leastAround_63, rfl⟩
theorem dX1_leastAround_65 : decode cX1_leastAround 65 = .ok (.imul, 1) := by decide +kernel
theorem eX1_leastAround_65 : dec cX1_leastAround 65 .imul 1 66 := ⟨dX1_leastAround_65, rfl⟩
theorem dX1_leastAround_66 : decode cX1_leastAround 66 = .ok (.iload 5, 2) := by decide +kernel
theorem eX1_leastAround_66 : dec cX1_leastAround 66 (.iload 5) 2 68 := ⟨dX1_leastAround_66, rfl⟩
theorem dX1_leastAround_68 : decode cX1_leastAround 68 = .ok (.iadd, 1) := by decide +kernel
theorem eX1_leastAround_68 : dec cX1_leastAround 68 .iadd 1 69 := ⟨dX1_leastAround_68, rfl⟩
theorem dX1_leastAround_69 : decode cX1_leastAround 69 = .ok (.iaload, 1) := by decide +kernel
theorem eX1_leastAround_69 : dec cX1_leastAround 69 .iaload 1 70 := ⟨dX1_leastAround_69, rfl⟩
theorem dX1_leastAround_70 : decode cX1_leastAround 70 = .ok (.iconst 1, 1) := by decide +kernel
theorem eX1_leastAround_70 : dec cX1_leastAround 70 (.iconst 1) 1 71 := ⟨dX1_leastAround_70, rfl⟩
theorem dX1_leastAround_71 : decode cX1_leastAround 71 = .ok (.if_icmp .ne 38, 3) := by decide +kernel
theorem eX1_leastAround_71 : dec cX1_leastAround 71 (.if_icmp .ne 38) 3 74 := ⟨dX1_leastAround_71, rfl⟩
theorem dX1_leastAround_74 : decode cX1_leastAround 74 = .ok (.aload_n 0, 1) := by decide +kernel
theorem eX1_leastAround_74 : dec cX1_leastAround 74 (.aload_n 0) 1 75 := ⟨dX1_leastAround_74, rfl⟩
theorem dX1_leastAround_75 : decode cX1_leastAround 75 = .ok (.getfield 19, 3) := by decide +kernel
theorem eX1_leastAround_75 : dec cX1_leastAround 75 (.getfield 19) 3 78 := ⟨dX1_leastAround_75, rfl⟩
theorem dX1_leastAround_78 : decode cX1_leastAround 78 = .ok (.aload_n 0, 1) := by decide +kernel
theorem eX1_leastAround_78 : dec cX1_leastAround 78 (.aload_n 0) 1 79 := ⟨dX1_leastAround_78, rfl⟩
theorem dX1_leastAround_79 : decode cX1_leastAround 79 = .ok (.getfield 35, 3) := by decide +kernel
theorem eX1_leastAround_79 : dec cX1_leastAround 79 (.getfield 35) 3 82 := ⟨dX1_leastAround_79, rfl⟩
theorem dX1_leastAround_82 : decode cX1_leastAround 82 = .ok (.iload 6, 2) := by decide +kernel
theorem eX1_leastAround_82 : dec cX1_leastAround 82 (.iload 6) 2 84 := ⟨dX1_leastAround_82, rfl⟩
theorem dX1_leastAround_84 : decode cX1_leastAround 84 = .ok (.imul, 1) := by decide +kernel
theorem eX1_leastAround_84 : dec cX1_leastAround 84 .imul 1 85 := ⟨dX1_leastAround_84, rfl⟩
theorem dX1_leastAround_85 : decode cX1_leastAround 85 = .ok (.iload 5, 2) := by decide +kernel
theorem eX1_leastAround_85 : dec cX1_leastAround 85 (.iload 5) 2 87 := ⟨dX1_leastAround_85, rfl⟩
theorem dX1_leastAround_87 : decode cX1_leastAround 87 = .ok (.iadd, 1) := by decide +kernel
theorem eX1_leastAround_87 : dec cX1_leastAround 87 .iadd 1 88 := ⟨dX1_leastAround_87, rfl⟩
theorem dX1_leastAround_88 : decode cX1_leastAround 88 = .ok (.iaload, 1) := by decide +kernel
theorem eX1_leastAround_88 : dec cX1_leastAround 88 .iaload 1 89 := ⟨dX1_leastAround_88, rfl⟩
theorem dX1_leastAround_89 : decode cX1_leastAround 89 = .ok (.iload_n 2, 1) := by decide +kernel
theorem eX1_leastAround_89 : dec cX1_leastAround 89 (.iload_n 2) 1 90 := ⟨dX1_leastAround_89, rfl⟩
theorem dX1_leastAround_90 : decode cX1_leastAround 90 = .ok (.if_icmp .ge 19, 3) := by decide +kernel
theorem eX1_leastAround_90 : dec cX1_leastAround 90 (.if_icmp .ge 19) 3 93 := ⟨dX1_leastAround_90, rfl⟩
theorem dX1_leastAround_93 : decode cX1_leastAround 93 = .ok (.aload_n 0, 1) := by decide +kernel
theorem eX1_leastAround_93 : dec cX1_leastAround 93 (.aload_n 0) 1 94 := ⟨dX1_leastAround_93, rfl⟩
theorem dX1_leastAround_94 : decode cX1_leastAround 94 = .ok (.getfield 19, 3) := by decide +kernel
theorem eX1_leastAround_94 : dec cX1_leastAround 94 (.getfield 19) 3 97 := ⟨dX1_leastAround_94, rfl⟩
theorem dX1_leastAround_97 : decode cX1_leastAround 97 = .ok (.aload_n 0, 1) := by decide +kernel
theorem eX1_leastAround_97 : dec cX1_leastAround 97 (.aload_n 0) 1 98 := ⟨dX1_leastAround_97, rfl⟩
theorem dX1_leastAround_98 : decode cX1_leastAround 98 = .ok (.getfield 35, 3) := by decide +kernel
theorem eX1_leastAround_98 : dec cX1_leastAround 98 (.getfield 35) 3 101 := ⟨dX1_leastAround_98, rfl⟩
theorem dX1_leastAround_101 : decode cX1_leastAround 101 = .ok (.iload 6, 2) := by decide +kernel
theorem eX1_leastAround_101 : dec cX1_leastAround 101 (.iload 6) 2 103 := ⟨dX1_leastAround_101, rfl⟩
theorem dX1_leastAround_103 : decode cX1_leastAround 103 = .ok (.imul, 1) := by decide +kernel
theorem eX1_leastAround_103 : dec cX1_leastAround 103 .imul 1 104 := ⟨dX1_leastAround_103, rfl⟩
theorem dX1_leastAround_104 : decode cX1_leastAround 104 = .ok (.iload 5, 2) := by decide +kernel
theorem eX1_leastAround_104 : dec cX1_leastAround 104 (.iload 5) 2 106 := ⟨dX1_leastAround_104, rfl⟩
theorem dX1_leastAround_106 : decode cX1_leastAround 106 = .ok (.iadd, 1) := by decide +kernel
theorem eX1_leastAround_106 : dec cX1_leastAround 106 .iadd 1 107 := ⟨dX1_leastAround_106, rfl⟩
theorem dX1_leastAround_107 : decode cX1_leastAround 107 = .ok (.iaload, 1) := by decide +kernel
theorem eX1_leastAround_107 : dec cX1_leastAround 107 .iaload 1 108 := ⟨dX1_leastAround_107, rfl⟩
theorem dX1_leastAround_108 : decode cX1_leastAround 108 = .ok (.istore_n 2, 1) := by decide +kernel
theorem eX1_leastAround_108 : dec cX1_leastAround 108 (.istore_n 2) 1 109 := ⟨dX1_leastAround_108, rfl⟩
theorem dX1_leastAround_109 : decode cX1_leastAround 109 = .ok (.iinc 4 1, 3) := by decide +kernel
theorem eX1_leastAround_109 : dec cX1_leastAround 109 (.iinc 4 1) 3 112 := ⟨dX1_leastAround_109, rfl⟩
theorem dX1_leastAround_112 : decode cX1_leastAround 112 = .ok (.goto (-95), 3) := by decide +kernel
theorem eX1_leastAround_112 : dec cX1_leastAround 112 (.goto (-95)) 3 115 := ⟨dX1_leastAround_112, rfl⟩
theorem dX1_leastAround_115 : decode cX1_leastAround 115 = .ok (.iinc 3 1, 3) := by decide +kernel
theorem eX1_leastAround_115 : dec cX1_leastAround 115 (.iinc 3 1) 3 118 := ⟨dX1_leastAround_115, rfl⟩
theorem dX1_leastAround_118 : decode cX1_leastAround 118 = .ok (.goto (-109), 3) := by decide +kernel
theorem eX1_leastAround_118 : dec cX1_leastAround 118 (.goto (-109)) 3 121 := ⟨dX1_leastAround_118, rfl⟩
theorem dX1_leastAround_121 : decode cX1_leastAround 121 = .ok (.iload_n 2, 1) := by decide +kernel
theorem eX1_leastAround_121 : dec cX1_leastAround 121 (.iload_n 2) 1 122 := ⟨dX1_leastAround_121, rfl⟩
theorem dX1_leastAround_122 : decode cX1_leastAround 122 = .ok (.ireturn, 1) := by decide +kernel
theorem eX1_leastAround_122 : dec cX1_leastAround 122 .ireturn 1 123 := ⟨dX1_leastAround_122, rfl⟩
set_option maxRecDepth 20000 in
theorem ggX1_parts_X1_darken : GoodIn wsX1_parts wsX1_darken := goodIn_r _ [10, 2, 11, 4, 12, 13, 14, 9, 15, 16, 17, 18, 19, 20, 21, 22, 23, 24, 44, 45, 46, 47, 48, 49, 50, 51, 52, 53, 54, 55, 56, 57, 58] (by decide +kernel) (by decide +kernel)
set_option maxRecDepth 20000 in
theorem gX1_parts_X1_darken : GoodIn wsX1_parts (wsV RX1 68 RX1 yX1_darken wsX1_darken) := goodIn_app (goodIn_of _ (by decide +kernel)) ggX1_parts_X1_darken
set_option maxRecDepth 20000 in
theorem ggX1_parts_X1_leastAround : GoodIn wsX1_parts wsX1_leastAround := goodIn_r _ [28, 3, 29, 4, 30, 31, 32, 9, 33, 34, 44, 45, 46, 47, 48, 49, 50, 51, 52, 53, 54, 55, 56, 57, 58] (by decide +kernel) (by decide +kernel)
set_option maxRecDepth 20000 in
theorem gX1_parts_X1_leastAround : GoodIn wsX1_parts (wsV RX1 71 RX1 yX1_leastAround wsX1_leastAround) := goodIn_app (goodIn_of _ (by decide +kernel)) ggX1_parts_X1_leastAround
set_option maxRecDepth 20000 in
theorem ggX1_parts_X1_sizeOf : GoodIn wsX1_parts wsX1_sizeOf := goodIn_r _ [38, 2, 4, 3, 44, 45, 46, 47, 48, 49, 50, 51, 52, 53, 54, 55, 56, 57, 58] (by decide +kernel) (by decide +kernel)
set_option maxRecDepth 20000 in
theorem gX1_parts_X1_sizeOf : GoodIn wsX1_parts (wsV RX1 78 RX1 yX1_sizeOf wsX1_sizeOf) := goodIn_app (goodIn_of _ (by decide +kernel)) ggX1_parts_X1_sizeOf
set_option maxRecDepth 20000 in
theorem ggX1_parts_X1_tell : GoodIn wsX1_parts wsX1_tell := goodIn_r _ [42, 5, 43, 29, 34, 2, 4, 3, 44, 45, 46, 47, 48, 49, 50, 51, 52, 53, 54, 55, 56, 57, 58] (by decide +kernel) (by decide +kernel)
set_option maxRecDepth 20000 in
theorem gX1_parts_X1_tell : GoodIn wsX1_parts (wsV RX1 81 RX1 yX1_tell wsX1_tell) := goodIn_app (goodIn_of _ (by decide +kernel)) ggX1_parts_X1_tell
theorem dX1_parts_0 : decode cX1_parts 0 = .ok (.aload_n 0, 1) := by decide +kernel
theorem eX1_parts_0 : dec cX1_parts 0 (.aload_n 0) 1 1 := ⟨dX1_parts_0, rfl⟩
theorem dX1_parts_1 : decode cX1_parts 1 = .ok (.iconst 0, 1) := by decide +kernel
theorem eX1_parts_1 : dec cX1_parts 1 (.iconst 0) 1 2 := ⟨dX1_parts_1, rfl⟩
theorem dX1_parts_2 : decode cX1_parts 2 = .ok (.putfield 45, 3) := by decide +kernel
theorem eX1_parts_2 : dec cX1_parts 2 (.putfield 45) 3 5 := ⟨dX1_parts_2, rfl⟩
theorem dX1_parts_5 : decode cX1_parts 5 = .ok (.aload_n 0, 1) := by decide +kernel
theorem eX1_parts_5 : dec cX1_parts 5 (.aload_n 0) 1 6 := ⟨dX1_parts_5, rfl⟩
theorem dX1_parts_6 : decode cX1_parts 6 = .ok (.invokevirtual 68, 3) := by decide +kernel
theorem eX1_parts_6 : dec cX1_parts 6 (.invokevirtual 68) 3 9 := ⟨dX1_parts_6, rfl⟩
theorem dX1_parts_9 : decode cX1_parts 9 = .ok (.iconst 0, 1) := by decide +kernel
theorem eX1_parts_9 : dec cX1_parts 9 (.iconst 0) 1 10 := ⟨dX1_parts_9, rfl⟩
theorem dX1_parts_10 : decode cX1_parts 10 = .ok (.istore_n 1, 1) := by decide +kernel
theorem eX1_parts_10 : dec cX1_parts 10 (.istore_n 1) 1 11 := ⟨dX1_parts_10, rfl⟩
theorem dX1_parts_11 : decode cX1_parts 11 = .ok (.iload_n 1, 1) := by decide +kernel
theorem eX1_parts_11 : dec cX1_parts 11 (.iload_n 1) 1 12 := ⟨dX1_parts_11, rfl⟩
theorem dX1_parts_12 : decode cX1_parts 12 = .ok (.aload_n 0, 1) := by decide +kernel
theorem eX1_parts_12 : dec cX1_parts 12 (.aload_n 0) 1 13 := ⟨dX1_parts_12, rfl⟩
theorem dX1_parts_13 : decode cX1_parts 13 = .ok (.getfield 42, 3) := by decide +kernel
theorem eX1_parts_13 : dec cX1_parts 13 (.getfield 42) 3 16 := ⟨dX1_parts_13, rfl⟩
theorem dX1_parts_16 : decode cX1_parts 16 = .ok (.if_icmp .ge 16, 3) := by decide +kernel
theorem eX1_parts_16 : dec cX1_parts 16 (.if_icmp .ge 16) 3 19 := ⟨dX1_parts_16, rfl⟩
theorem dX1_parts_19 : decode cX1_parts 19 = .ok (.aload_n 0, 1) := by decide +kernel
theorem eX1_parts_19 : dec cX1_parts 19 (.aload_n 0) 1 20 := ⟨dX1_parts_19, rfl⟩
theorem dX1_parts_20 : decode cX1_parts 20 = .ok (.getfield 19, 3) := by decide +kernel
theorem eX1_parts_20 : dec cX1_parts 20 (.getfield 19) 3 23 := ⟨dX1_parts_20, rfl⟩
theorem dX1_parts_23 : decode cX1_parts 23 = .ok (.iload_n 1, 1) := by decide +kernel
theorem eX1_parts_23 : dec cX1_parts 23 (.iload_n 1) 1 24 := ⟨dX1_parts_23, rfl⟩
theorem dX1_parts_24 : decode cX1_parts 24 = .ok (.iload_n 1, 1) := by decide +kernel
theorem eX1_parts_24 : dec cX1_parts 24 (.iload_n 1) 1 25 := ⟨dX1_parts_24, rfl⟩
theorem dX1_parts_25 : decode cX1_parts 25 = .ok (.iastore, 1) := by decide +kernel
theorem eX1_parts_25 : dec cX1_parts 25 .iastore 1 26 := ⟨dX1_parts_25, rfl⟩
theorem dX1_parts_26 : decode cX1_parts 26 = .ok (.iinc 1 1, 3) := by decide +kernel
theorem eX1_parts_26 : dec cX1_parts 26 (.iinc 1 1) 3 29 := ⟨dX1_parts_26, rfl⟩
theorem dX1_parts_29 : decode cX1_parts 29 = .ok (.goto (-18), 3) := by decide +kernel
theorem eX1_parts_29 : dec cX1_parts 29 (.goto (-18)) 3 32 := ⟨dX1_parts_29, rfl⟩
theorem dX1_parts_32 : decode cX1_parts 32 = .ok (.iconst 1, 1) := by decide +kernel
theorem eX1_parts_32 : dec cX1_parts 32 (.iconst 1) 1 33 := ⟨dX1_parts_32, rfl⟩
theorem dX1_parts_33 : decode cX1_parts 33 = .ok (.istore_n 1, 1) := by decide +kernel
theorem eX1_parts_33 : dec cX1_parts 33 (.istore_n 1) 1 34 := ⟨dX1_parts_33, rfl⟩
theorem dX1_parts_34 : decode cX1_parts 34 = .ok (.iload_n 1, 1) := by decide +kernel
theorem eX1_parts_34 : dec cX1_parts 34 (.iload_n 1) 1 35 := ⟨dX1_parts_34, rfl⟩
theorem dX1_parts_35 : decode cX1_parts 35 = .ok (.ifCond .eq 104, 3) := by decide +kernel
theorem eX1_parts_35 : dec cX1_parts 35 (.ifCond .eq 104) 3 38 := ⟨dX1_parts_35, rfl⟩
theorem dX1_parts_38 : decode cX1_parts 38 = .ok (.iconst 0, 1) := by decide +kernel
theorem eX1_parts_38 : dec cX1_parts 38 (.iconst 0) 1 39 := ⟨dX1_parts_38, rfl⟩
theorem dX1_parts_39 : decode cX1_parts 39 = .ok (.istore_n 1, 1) := by decide +kernel
theorem eX1_parts_39 : dec cX1_parts 39 (.istore_n 1) 1 40 := ⟨dX1_parts_39, rfl⟩
theorem dX1_parts_40 : decode cX1_parts 40 = .ok (.iconst 0, 1) := by decide +kernel
theorem eX1_parts_40 : dec cX1_parts 40 (.iconst 0) 1 41 := ⟨dX1_parts_40, rfl⟩
theorem dX1_parts_41 : decode cX1_parts 41 = .ok (.istore_n 2, 1) := by decide +kernel
theorem eX1_parts_41 : dec cX1_parts 41 (.istore_n 2) 1 42 := ⟨dX1_parts_41, rfl⟩
theorem dX1_parts_42 : decode cX1_parts 42 = .ok (.iload_n 2, 1) := by decide +kernel
theorem eX1_parts_42 : dec cX1_parts 42 (.iload_n 2) 1 43 := ⟨dX1_parts_42, rfl⟩
theorem dX1_parts_43 : decode cX1_parts 43 = .ok (.iconst 2, 1) := by decide +kernel
theorem eX1_parts_43 : dec cX1_parts 43 (.iconst 2) 1 44 := ⟨dX1_parts_43, rfl⟩
theorem dX1_parts_44 : decode cX1_parts 44 = .ok (.aload_n 0, 1) := by decide +kernel
theorem eX1_parts_44 : dec cX1_parts 44 (.aload_n 0) 1 45 := ⟨dX1_parts_44, rfl⟩
theorem dX1_parts_45 : decode cX1_parts 45 = .ok (.getfield 42, 3) := by decide +kernel
theorem eX1_parts_45 : dec cX1_parts 45 (.getfield 42) 3 48 := ⟨dX1_parts_45, rfl⟩
theorem dX1_parts_48 : decode cX1_parts 48 = .ok (.imul, 1) := by decide +kernel
theorem eX1_parts_48 : dec cX1_parts 48 .imul 1 49 := ⟨dX1_parts_48, rfl⟩
theorem dX1_parts_49 : decode cX1_parts 49 = .ok (.if_icmp .ge 87, 3) := by decide +kernel
theorem eX1_parts_49 : dec cX1_parts 49 (.if_icmp .ge 87) 3 52 := ⟨dX1_parts_49, rfl⟩
theorem dX1_parts_52 : decode cX1_parts 52 = .ok (.iload_n 2, 1) := by decide +kernel
theorem eX1_parts_52 : dec cX1_parts 52 (.iload_n 2) 1 53 := ⟨dX1_parts_52, rfl⟩
theorem dX1_parts_53 : decode cX1_parts 53 = .ok (.aload_n 0, 1) := by decide +kernel
theorem eX1_parts_53 : dec cX1_parts 53 (.aload_n 0) 1 54 := ⟨dX1_parts_53, rfl⟩
theorem dX1_parts_54 : decode cX1_parts 54 = .ok (.getfield 42, 3) := by decide +kernel
theorem eX1_parts_54 : dec cX1_parts 54 (.getfield 42) 3 57 := ⟨dX1_parts_54, rfl⟩
theorem dX1_parts_57 : decode cX1_parts 57 = .ok (.if_icmp .ge 7, 3) := by decide +kernel
theorem eX1_parts_57 : dec cX1_parts 57 (.if_icmp .ge 7) 3 60 := ⟨dX1_parts_57, rfl⟩
theorem dX1_parts_60 : decode cX1_parts 60 = .ok (.iload_n 2, 1) := by decide +kernel
theorem eX1_parts_60 : dec cX1_parts 60 (.iload_n 2) 1 61 := ⟨dX1_parts_60, rfl⟩
theorem dX1_parts_61 : decode cX1_parts 61 = .ok (.goto 13, 3) := by decide +kernel
theorem eX1_parts_61 : dec cX1_parts 61 (.goto 13) 3 64 := ⟨dX1_parts_61, rfl⟩
theorem dX1_parts_64 : decode cX1_parts 64 = .ok (.iconst 2, 1) := by decide +kernel
theorem eX1_parts_64 : dec cX1_parts 64 (.iconst 2) 1 65 := ⟨dX1_parts_64, rfl⟩
theorem dX1_parts_65 : decode cX1_parts 65 = .ok (.aload_n 0, 1) := by decide +kernel
theorem eX1_parts_65 : dec cX1_parts 65 (.aload_n 0) 1 66 := ⟨dX1_parts_65, rfl⟩
theorem dX1_parts_66 : decode cX1_parts 66 = .ok (.getfield 42, 3) := by decide +kernel
theorem eX1_parts_66 : dec cX1_parts 66 (.getfield 42) 3 69 := ⟨dX1_parts_66, rfl⟩
theorem dX1_parts_69 : decode cX1_parts 69 = .ok (.imul, 1) := by decide +kernel
theorem eX1_parts_69 : dec cX1_parts 69 .imul 1 70 := ⟨dX1_parts_69, rfl⟩
theorem dX1_parts_70 : decode cX1_parts 70 = .ok (.iconst 1, 1) := by decide +kernel
theorem eX1_parts_70 : dec cX1_parts 70 (.iconst 1) 1 71 := ⟨dX1_parts_70, rfl⟩
theorem dX1_parts_71 : decode cX1_parts 71 = .ok (.isub, 1) := by decide +kernel
theorem eX1_parts_71 : dec cX1_parts 71 .isub 1 72 := ⟨dX1_parts_71, rfl⟩
theorem dX1_parts_72 : decode cX1_parts 72 = .ok (.iload_n 2, 1) := by decide +kernel
theorem eX1_parts_72 : dec cX1_parts 72 (.iload_n 2) 1 73 := ⟨dX1_parts_72, rfl⟩
theorem dX1_parts_73 : decode cX1_parts 73 = .ok (.isub, 1) := by decide +kernel
theorem eX1_parts_73 : dec cX1_parts 73 .isub 1 74 := ⟨dX1_parts_73, rfl⟩
theorem dX1_parts_74 : decode cX1_parts 74 = .ok (.istore_n 3, 1) := by decide +kernel
theorem eX1_parts_74 : dec cX1_parts 74 (.istore_n 3) 1 75 := ⟨dX1_parts_74, rfl⟩
theorem dX1_parts_75 : decode cX1_parts 75 = .ok (.aload_n 0, 1) := by decide +kernel
theorem eX1_parts_75 : dec cX1_parts 75 (.aload_n 0) 1 76 := ⟨dX1_parts_75, rfl⟩
theorem dX1_parts_76 : decode cX1_parts 76 = .ok (.getfield 13, 3) := by decide +kernel
theorem eX1_parts_76 : dec cX1_parts 76 (.getfield 13) 3 79 := ⟨dX1_parts_76, rfl⟩
theorem dX1_parts_79 : decode cX1_parts 79 = .ok (.iload_n 3, 1) := by decide +kernel
theorem eX1_parts_79 : dec cX1_parts 79 (.iload_n 3) 1 80 := ⟨dX1_parts_79, rfl⟩
theorem dX1_parts_80 : decode cX1_parts 80 = .ok (.iaload, 1) := by decide +kernel
theorem eX1_parts_80 : dec cX1_parts 80 .iaload 1 81 := ⟨dX1_parts_80, rfl⟩
theorem dX1_parts_81 : decode cX1_parts 81 = .ok (.iconst 1, 1) := by decide +kernel
theorem eX1_parts_81 : dec cX1_parts 81 (.iconst 1) 1 82 := ⟨dX1_parts_81, rfl⟩
theorem dX1_parts_82 : decode cX1_parts 82 = .ok (.if_icmp .ne 11, 3) := by decide +kernel
theorem eX1_parts_82 : dec cX1_parts 82 (.if_icmp .ne 11) 3 85 := ⟨dX1_parts_82, rfl⟩
theorem dX1_parts_85 : decode cX1_parts 85 = .ok (.aload_n 0, 1) := by decide +kernel
theorem eX1_parts_85 : dec cX1_parts 85 (.aload_n 0) 1 86 := ⟨dX1_parts_85, rfl⟩
theorem dX1_parts_86 : decode cX1_parts 86 = .ok (.iload_n 3, 1) := by decide +kernel
theorem eX1_parts_86 : dec cX1_parts 86 (.iload_n 3) 1 87 := ⟨dX1_parts_86, rfl⟩
theorem dX1_parts_87 : decode cX1_parts 87 = .ok (.invokevirtual 71, 3) := by decide +kernel
theorem eX1_parts_87 : dec cX1_parts 87 (.invokevirtual 71) 3 90 := ⟨dX1_parts_87, rfl⟩
theorem dX1_parts_90 : decode cX1_parts 90 = .ok (.goto 9, 3) := by decide +kernel
theorem eX1_parts_90 : dec cX1_parts 90 (.goto 9) 3 93 := ⟨dX1_parts_90, rfl⟩
theorem dX1_parts_93 : decode cX1_parts 93 = .ok (.aload_n 0, 1) := by decide +kernel
theorem eX1_parts_93 : dec cX1_parts 93 (.aload_n 0) 1 94 := ⟨dX1_parts_93, rfl⟩
theorem dX1_parts_94 : decode cX1_parts 94 = .ok (.getfield 19, 3) := by decide +kernel
theorem eX1_parts_94 : dec cX1_parts 94 (.getfield 19) 3 97 := ⟨dX1_parts_94, rfl⟩
theorem dX1_parts_97 : decode cX1_parts 97 = .ok (.iload_n 3, 1) := by decide +kernel
theorem eX1_parts_97 : dec cX1_parts 97 (.iload_n 3) 1 98 := ⟨dX1_parts_97, rfl⟩
theorem dX1_parts_98 : decode cX1_parts 98 = .ok (.iaload, 1) := by decide +kernel
theorem eX1_parts_98 : dec cX1_parts 98 .iaload 1 99 := ⟨dX1_parts_98, rfl⟩
theorem dX1_parts_99 : decode cX1_parts 99 = .ok (.istore 4, 2) := by decide +kernel
theorem eX1_parts_99 : dec cX1_parts 99 (.istore 4) 2 101 := ⟨dX1_parts_99, rfl⟩
theorem dX1_parts_101 : decode cX1_parts 101 = .ok (.iload_n 1, 1) := by decide +kernel
theorem eX1_parts_101 : dec cX1_parts 101 (.iload_n 1) 1 102 := ⟨dX1_parts_101, rfl⟩
theorem dX1_parts_102 : decode cX1_parts 102 = .ok (.ifCond .ne 14, 3) := by decide +kernel
theorem eX1_parts_102 : dec cX1_parts 102 (.ifCond .ne 14) 3 105 := ⟨dX1_parts_102, rfl⟩
theorem dX1_parts_105 : decode cX1_parts 105 = .ok (.iload 4, 2) := by decide +kernel
theorem eX1_parts_105 : dec cX1_parts 105 (.iload 4) 2 107 := ⟨dX1_parts_105, rfl⟩
theorem dX1_parts_107 : decode cX1_parts 107 = .ok (.aload_n 0, 1) := by decide +kernel
theorem eX1_parts_107 : dec cX1_parts 107 (.aload_n 0) 1 108 := ⟨dX1_parts_107, rfl⟩
theorem dX1_parts_108 : decode cX1_parts 108 = .ok (.getfield 19, 3) := by decide +kernel
theorem eX1_parts_108 : dec cX1_parts 108 (.getfield 19) 3 111 := ⟨dX1_parts_108, rfl⟩
theorem dX1_parts_111 : decode cX1_parts 111 = .ok (.iload_n 3, 1) := by decide +kernel
theorem eX1_parts_111 : dec cX1_parts 111 (.iload_n 3) 1 112 := ⟨dX1_parts_111, rfl⟩
theorem dX1_parts_112 : decode cX1_parts 112 = .ok (.iaload, 1) := by decide +kernel
theorem eX1_parts_112 : dec cX1_parts 112 .iaload 1 113 := ⟨dX1_parts_112, rfl⟩
theorem dX1_parts_113 : decode cX1_parts 113 = .ok (.if_icmp .ge 7, 3) := by decide +kernel
theorem eX1_parts_113 : dec cX1_parts 113 (.if_icmp .ge 7) 3 116 := ⟨dX1_parts_113, rfl⟩
theorem dX1_parts_116 : decode cX1_parts 116 = .ok (.iconst 1, 1) := by decide +kernel
theorem eX1_parts_116 : dec cX1_parts 116 (.iconst 1) 1 117 := ⟨dX1_parts_116, rfl⟩
theorem dX1_parts_117 : decode cX1_parts 117 = .ok (.goto 4, 3) := by decide +kernel
theorem eX1_parts_117 : dec cX1_parts 117 (.goto 4) 3 120 := ⟨dX1_parts_117, rfl⟩
theorem dX1_parts_120 : decode cX1_parts 120 = .ok (.iconst 0, 1) := by decide +kernel
theorem eX1_parts_120 : dec cX1_parts 120 (.iconst 0) 1 121 := ⟨dX1_parts_120, rfl⟩
theorem dX1_parts_121 : decode cX1_parts 121 = .ok (.istore_n 1, 1) := by decide +kernel
theorem eX1_parts_121 : dec cX1_parts 121 (.istore_n 1) 1 122 := ⟨dX1_parts_121, rfl⟩
theorem dX1_parts_122 : decode cX1_parts 122 = .ok (.aload_n 0, 1) := by decide +kernel
theorem eX1_parts_122 : dec cX1_parts 122 (.aload_n 0) 1 123 := ⟨dX1_parts_122, rfl⟩
theorem dX1_parts_123 : decode cX1_parts 123 = .ok (.getfield 19, 3) := by decide +kernel
theorem eX1_parts_123 : dec cX1_parts 123 (.getfield 19) 3 126 := ⟨dX1_parts_123, rfl⟩
theorem dX1_parts_126 : decode cX1_parts 126 = .ok (.iload_n 3, 1) := by decide +kernel
theorem eX1_parts_126 : dec cX1_parts 126 (.iload_n 3) 1 127 := ⟨dX1_parts_126, rfl⟩
theorem dX1_parts_127 : decode cX1_parts 127 = .ok (.iload 4, 2) := by decide +kernel
theorem eX1_parts_127 : dec cX1_parts 127 (.iload 4) 2 129 := ⟨dX1_parts_127, rfl⟩
theorem dX1_parts_129 : decode cX1_parts 129 = .ok (.iastore, 1) := by decide +kernel
theorem eX1_parts_129 : dec cX1_parts 129 .iastore 1 130 := ⟨dX1_parts_129, rfl⟩
theorem dX1_parts_130 : decode cX1_parts 130 = .ok (.iinc 2 1, 3) := by decide +kernel
theorem eX1_parts_130 : dec cX1_parts 130 (.iinc 2 1) 3 133 := ⟨dX1_parts_130, rfl⟩
theorem dX1_parts_133 : decode cX1_parts 133 = .ok (.goto (-91), 3) := by decide +kernel
theorem eX1_parts_133 : dec cX1_parts 133 (.goto (-91)) 3 136 := ⟨dX1_parts_133, rfl⟩
theorem dX1_parts_136 : decode cX1_parts 136 = .ok (.goto (-102), 3) := by decide +kernel
theorem eX1_parts_136 : dec cX1_parts 136 (.goto (-102)) 3 139 := ⟨dX1_parts_136, rfl⟩
theorem dX1_parts_139 : decode cX1_parts 139 = .ok (.aload_n 0, 1) := by decide +kernel
theorem eX1_parts_139 : dec cX1_parts 139 (.aload_n 0) 1 140 := ⟨dX1_parts_139, rfl⟩
theorem dX1_parts_140 : decode cX1_parts 140 = .ok (.iconst 0, 1) := by decide +kernel
theorem eX1_parts_140 : dec cX1_parts 140 (.iconst 0) 1 141 := ⟨dX1_parts_140, rfl⟩
theorem dX1_parts_141 : decode cX1_parts 141 = .ok (.putfield 75, 3) := by decide +kernel
theorem eX1_parts_141 : dec cX1_parts 141 (.putfield 75) 3 144 := ⟨dX1_parts_141, rfl⟩
theorem dX1_parts_144 : decode cX1_parts 144 = .ok (.iconst 0, 1) := by decide +kernel
theorem eX1_parts_144 : dec cX1_parts 144 (.iconst 0) 1 145 := ⟨dX1_parts_144, rfl⟩
theorem dX1_parts_145 : decode cX1_parts 145 = .ok (.istore_n 2, 1) := by decide +kernel
theorem eX1_parts_145 : dec cX1_parts 145 (.istore_n 2) 1 146 := ⟨dX1_parts_145, rfl⟩
theorem dX1_parts_146 : decode cX1_parts 146 = .ok (.iload_n 2, 1) := by decide +kernel
theorem eX1_parts_146 : dec cX1_parts 146 (.iload_n 2) 1 147 := ⟨dX1_parts_146, rfl⟩
theorem dX1_parts_147 : decode cX1_parts 147 = .ok (.aload_n 0, 1) := by decide +kernel
theorem eX1_parts_147 : dec cX1_parts 147 (.aload_n 0) 1 148 := ⟨dX1_parts_147, rfl⟩
theorem dX1_parts_148 : decode cX1_parts 148 = .ok (.getfield 42, 3) := by decide +kernel
theorem eX1_parts_148 : dec cX1_parts 148 (.getfield 42) 3 151 := ⟨dX1_parts_148, rfl⟩
theorem dX1_parts_151 : decode cX1_parts 151 = .ok (.if_icmp .ge 53, 3) := by decide +kernel
theorem eX1_parts_151 : dec cX1_parts 151 (.if_icmp .ge 53) 3 154 := ⟨dX1_parts_151, rfl⟩
theorem dX1_parts_154 : decode cX1_parts 154 = .ok (.aload_n 0, 1) := by decide +kernel
theorem eX1_parts_154 : dec cX1_parts 154 (.aload_n 0) 1 155 := ⟨dX1_parts_154, rfl⟩
theorem dX1_parts_155 : decode cX1_parts 155 = .ok (.getfield 13, 3) := by decide +kernel
theorem eX1_parts_155 : dec cX1_parts 155 (.getfield 13) 3 158 := ⟨dX1_parts_155, rfl⟩
theorem dX1_parts_158 : decode cX1_parts 158 = .ok (.iload_n 2, 1) := by decide +kernel
theorem eX1_parts_158 : dec cX1_parts 158 (.iload_n 2) 1 159 := ⟨dX1_parts_158, rfl⟩
theorem dX1_parts_159 : decode cX1_parts 159 = .ok (.iaload, 1) := by decide +kernel
theorem eX1_parts_159 : dec cX1_parts 159 .iaload 1 160 := ⟨dX1_parts_159, rfl⟩
theorem dX1_parts_160 : decode cX1_parts 160 = .ok (.iconst 1, 1) := by decide +kernel
theorem eX1_parts_160 : dec cX1_parts 160 (.iconst 1) 1 161 := ⟨dX1_parts_160, rfl⟩
theorem dX1_parts_161 : decode cX1_parts 161 = .ok (.if_icmp .ne 37, 3) := by decide +kernel
theorem eX1_parts_161 : dec cX1_parts 161 (.if_icmp .ne 37) 3 164 := ⟨dX1_parts_161, rfl⟩
theorem dX1_parts_164 : decode cX1_parts 164 = .ok (.aload_n 0, 1) := by decide +kernel
theorem eX1_parts_164 : dec cX1_parts 164 (.aload_n 0) 1 165 := ⟨dX1_parts_164, rfl⟩
theorem dX1_parts_165 : decode cX1_parts 165 = .ok (.getfield 19, 3) := by decide +kernel
theorem eX1_parts_165 : dec cX1_parts 165 (.getfield 19) 3 168 := ⟨dX1_parts_165, rfl⟩
theorem dX1_parts_168 : decode cX1_parts 168 = .ok (.iload_n 2, 1) := by decide +kernel
theorem eX1_parts_168 : dec cX1_parts 168 (.iload_n 2) 1 169 := ⟨dX1_parts_168, rfl⟩
theorem dX1_parts_169 : decode cX1_parts 169 = .ok (.iaload, 1) := by decide +kernel
theorem eX1_parts_169 : dec cX1_parts 169 .iaload 1 170 := ⟨dX1_parts_169, rfl⟩
theorem dX1_parts_170 : decode cX1_parts 170 = .ok (.iload_n 2, 1) := by decide +kernel
theorem eX1_parts_170 : dec cX1_parts 170 (.iload_n 2) 1 171 := ⟨dX1_parts_170, rfl⟩
theorem dX1_parts_171 : decode cX1_parts 171 = .ok (.if_icmp .ne 27, 3) := by decide +kernel
theorem eX1_parts_171 : dec cX1_parts 171 (.if_icmp .ne 27) 3 174 := ⟨dX1_parts_171, rfl⟩
theorem dX1_parts_174 : decode cX1_parts 174 = .ok (.aload_n 0, 1) := by decide +kernel
theorem eX1_parts_174 : dec cX1_parts 174 (.aload_n 0) 1 175 := ⟨dX1_parts_174, rfl⟩
theorem dX1_parts_175 : decode cX1_parts 175 = .ok (.iload_n 2, 1) := by decide +kernel
theorem eX1_parts_175 : dec cX1_parts 175 (.iload_n 2) 1 176 := ⟨dX1_parts_175, rfl⟩
theorem dX1_parts_176 : decode cX1_parts 176 = .ok (.invokevirtual 78, 3) := by decide +kernel
theorem eX1_parts_176 : dec cX1_parts 176 (.invokevirtual 78) 3 179 := ⟨dX1_parts_176, rfl⟩
theorem dX1_parts_179 : decode cX1_parts 179 = .ok (.iconst 2, 1) := by decide +kernel
theorem eX1_parts_179 : dec cX1_parts 179 (.iconst 2) 1 180 := ⟨dX1_parts_179, rfl⟩
theorem dX1_parts_180 : decode cX1_parts 180 = .ok (.if_icmp .le 18, 3) := by decide +kernel
theorem eX1_parts_180 : dec cX1_parts 180 (.if_icmp .le 18) 3 183 := ⟨dX1_parts_180, rfl⟩
theorem dX1_parts_183 : decode cX1_parts 183 = .ok (.aload_n 0, 1) := by decide +kernel
theorem eX1_parts_183 : dec cX1_parts 183 (.aload_n 0) 1 184 := ⟨dX1_parts_183, rfl⟩
theorem dX1_parts_184 : decode cX1_parts 184 = .ok (.iload_n 2, 1) := by decide +kernel
theorem eX1_parts_184 : dec cX1_parts 184 (.iload_n 2) 1 185 := ⟨dX1_parts_184, rfl⟩
theorem dX1_parts_185 : decode cX1_parts 185 = .ok (.invokevirtual 81, 3) := by decide +kernel
theorem eX1_parts_185 : dec cX1_parts 185 (.invokevirtual 81) 3 188 := ⟨dX1_parts_185, rfl⟩
theorem dX1_parts_188 : decode cX1_parts 188 = .ok (.aload_n 0, 1) := by decide +kernel
theorem eX1_parts_188 : dec cX1_parts 188 (.aload_n 0) 1 189 := ⟨dX1_parts_188, rfl⟩
theorem dX1_parts_189 : decode cX1_parts 189 = .ok (.dup, 1) := by decide +kernel
theorem eX1_parts_189 : dec cX1_parts 189 .dup 1 190 := ⟨dX1_parts_189, rfl⟩
theorem dX1_parts_190 : decode cX1_parts 190 = .ok (.getfield 75, 3) := by decide +kernel
theorem eX1_parts_190 : dec cX1_parts 190 (.getfield 75) 3 193 := ⟨dX1_parts_190, rfl⟩
theorem dX1_parts_193 : decode cX1_parts 193 = .ok (.iconst 1, 1) := by decide +kernel
theorem eX1_parts_193 : dec cX1_parts 193 (.iconst 1) 1 194 := ⟨dX1_parts_193, rfl⟩
theorem dX1_parts_194 : decode cX1_parts 194 = .ok (.iadd, 1) := by decide +kernel
theorem eX1_parts_194 : dec cX1_parts 194 .iadd 1 195 := ⟨dX1_parts_194, rfl⟩
theorem dX1_parts_195 : decode cX1_parts 195 = .ok (.putfield 75, 3) := by decide +kernel
theorem eX1_parts_195 : dec cX1_parts 195 (.putfield 75) 3 198 := ⟨dX1_parts_195, rfl⟩
theorem dX1_parts_198 : decode cX1_parts 198 = .ok (.iinc 2 1, 3) := by decide +kernel
theorem eX1_parts_198 : dec cX1_parts 198 (.iinc 2 1) 3 201 := ⟨dX1_parts_198, rfl⟩
theorem dX1_parts_201 : decode cX1_parts 201 = .ok (.goto (-55), 3) := by decide +kernel
theorem eX1_parts_201 : dec cX1_parts 201 (.goto (-55)) 3 204 := ⟨dX1_parts_201, rfl⟩
theorem dX1_parts_204 : decode cX1_parts 204 = .ok (.aload_n 0, 1) := by decide +kernel
theorem eX1_parts_204 : dec cX1_parts 204 (.aload_n 0) 1 205 := ⟨dX1_parts_204, rfl⟩
theorem dX1_parts_205 : decode cX1_parts 205 = .ok (.getfield 75, 3) := by decide +kernel
theorem eX1_parts_205 : dec cX1_parts 205 (.getfield 75) 3 208 := ⟨dX1_parts_205, rfl⟩
theorem dX1_parts_208 : decode cX1_parts 208 = .ok (.ireturn, 1) := by decide +kernel
theorem eX1_parts_208 : dec cX1_parts 208 .ireturn 1 209 := ⟨dX1_parts_208, rfl⟩
theorem dX1_sizeOf_0 : decode cX1_sizeOf 0 = .ok (.iconst 0, 1) := by decide +kernel
theorem eX1_sizeOf_0 : dec cX1_sizeOf 0 (.iconst 0) 1 1 := ⟨dX1_sizeOf_0, rfl⟩
theorem dX1_sizeOf_1 : decode cX1_sizeOf 1 = .ok (.istore_n 2, 1) := by decide +kernel
theorem eX1_sizeOf_1 : dec cX1_sizeOf 1 (.istore_n 2) 1 2 := ⟨dX1_sizeOf_1, rfl⟩
theorem dX1_sizeOf_2 : decode cX1_sizeOf 2 = .ok (.iconst 0, 1) := by decide +kernel
theorem eX1_sizeOf_2 : dec cX1_sizeOf 2 (.iconst 0) 1 3 := ⟨dX1_sizeOf_2, rfl⟩
theorem dX1_sizeOf_3 : decode cX1_sizeOf 3 = .ok (.istore_n 3, 1) := by decide +kernel
theorem eX1_sizeOf_3 : dec cX1_sizeOf 3 (.istore_n 3) 1 4 := ⟨dX1_sizeOf_3, rfl⟩
theorem dX1_sizeOf_4 : decode cX1_sizeOf 4 = .ok (.iload_n 3, 1) := by decide +kernel
theorem eX1_sizeOf_4 : dec cX1_sizeOf 4 (.iload_n 3) 1 5 := ⟨dX1_sizeOf_4, rfl⟩
theorem dX1_sizeOf_5 : decode cX1_sizeOf 5 = .ok (.aload_n 0, 1) := by decide +kernel
theorem eX1_sizeOf_5 : dec cX1_sizeOf 5 (.aload_n 0) 1 6 := ⟨dX1_sizeOf_5, rfl⟩
theorem dX1_sizeOf_6 : decode cX1_sizeOf 6 = .ok (.getfield 42, 3) := by decide +kernel
theorem eX1_sizeOf_6 : dec cX1_sizeOf 6 (.getfield 42) 3 9 := ⟨dX1_sizeOf_6, rfl⟩
theorem dX1_sizeOf_9 : decode cX1_sizeOf 9 = .ok (.if_icmp .ge 37, 3) := by decide +kernel
theorem eX1_sizeOf_9 : dec cX1_sizeOf 9 (.if_icmp .ge 37) 3 12 := ⟨dX1_sizeOf_9, rfl⟩
theorem dX1_sizeOf_12 : decode cX1_sizeOf 12 = .ok (.aload_n 0, 1) := by decide +kernel
theorem eX1_sizeOf_12 : dec cX1_sizeOf 12 (.aload_n 0) 1 13 := ⟨dX1_sizeOf_12, rfl⟩
theorem dX1_sizeOf_13 : decode cX1_sizeOf 13 = .ok (.getfield 13, 3) := by decide +kernel
theorem eX1_sizeOf_13 : dec cX1_sizeOf 13 (.getfield 13) 3 16 := ⟨dX1_sizeOf_13, rfl⟩
theorem dX1_sizeOf_16 : decode cX1_sizeOf 16 = .ok (.iload_n 3, 1) := by decide +kernel
theorem eX1_sizeOf_16 : dec cX1_sizeOf 16 (.iload_n 3) 1 17 := ⟨dX1_sizeOf_16, rfl⟩
theorem dX1_sizeOf_17 : decode cX1_sizeOf 17 = .ok (.iaload, 1) := by decide +kernel
theorem eX1_sizeOf_17 : dec cX1_sizeOf 17 .iaload 1 18 := ⟨dX1_sizeOf_17, rfl⟩
theorem dX1_sizeOf_18 : decode cX1_sizeOf 18 = .ok (.iconst 1, 1) := by decide +kernel
theorem eX1_sizeOf_18 : dec cX1_sizeOf 18 (.iconst 1) 1 19 := ⟨dX1_sizeOf_18, rfl⟩
theorem dX1_sizeOf_19 : decode cX1_sizeOf 19 = .ok (.if_icmp .ne 19, 3) := by decide +kernel
theorem eX1_sizeOf_19 : dec cX1_sizeOf 19 (.if_icmp .ne 19) 3 22 := ⟨dX1_sizeOf_19, rfl⟩
theorem dX1_sizeOf_22 : decode cX1_sizeOf 22 = .ok (.aload_n 0, 1) := by decide +kernel
theorem eX1_sizeOf_22 : dec cX1_sizeOf 22 (.aload_n 0) 1 23 := ⟨dX1_sizeOf_22, rfl⟩
theorem dX1_sizeOf_23 : decode cX1_sizeOf 23 = .ok (.getfield 19, 3) := by decide +kernel
theorem eX1_sizeOf_23 : dec cX1_sizeOf 23 (.getfield 19) 3 26 := ⟨dX1_sizeOf_23, rfl⟩
theorem dX1_sizeOf_26 : decode cX1_sizeOf 26 = .ok (.iload_n 3, 1) := by decide +kernel
theorem eX1_sizeOf_26 : dec cX1_sizeOf 26 (.iload_n 3) 1 27 := ⟨dX1_sizeOf_26, rfl⟩
theorem dX1_sizeOf_27 : decode cX1_sizeOf 27 = .ok (.iaload, 1) := by decide +kernel
theorem eX1_sizeOf_27 : dec cX1_sizeOf 27 .iaload 1 28 := ⟨dX1_sizeOf_27, rfl⟩
theorem dX1_sizeOf_28 : decode cX1_sizeOf 28 = .ok (.iload_n 1, 1) := by decide +kernel
theorem eX1_sizeOf_28 : dec cX1_sizeOf 28 (.iload_n 1) 1 29 := ⟨dX1_sizeOf_28, rfl⟩
theorem dX1_sizeOf_29 : decode cX1_sizeOf 29 = .ok (.if_icmp .ne 9, 3) := by decide +kernel
theorem eX1_sizeOf_29 : dec cX1_sizeOf 29 (.if_icmp .ne 9) 3 32 := ⟨dX1_sizeOf_29, rfl⟩
theorem dX1_sizeOf_32 : decode cX1_sizeOf 32 = .ok (.iload_n 2, 1) := by decide +kernel
theorem eX1_sizeOf_32 : dec cX1_sizeOf 32 (.iload_n 2) 1 33 := ⟨dX1_sizeOf_32, rfl⟩
theorem dX1_sizeOf_33 : decode cX1_sizeOf 33 = .ok (.iconst 1, 1) := by decide +kernel
theorem eX1_sizeOf_33 : dec cX1_sizeOf 33 (.iconst 1) 1 34 := ⟨dX1_sizeOf_33, rfl⟩
theorem dX1_sizeOf_34 : decode cX1_sizeOf 34 = .ok (.iadd, 1) := by decide +kernel
theorem eX1_sizeOf_34 : dec cX1_sizeOf 34 .iadd 1 35 := ⟨dX1_sizeOf_34, rfl⟩
theorem dX1_sizeOf_35 : decode cX1_sizeOf 35 = .ok (.goto 4, 3) := by decide +kernel
theorem eX1_sizeOf_35 : dec cX1_sizeOf 35 (.goto 4) 3 38 := ⟨dX1_sizeOf_35, rfl⟩
theorem dX1_sizeOf_38 : decode cX1_sizeOf 38 = .ok (.iload_n 2, 1) := by decide +kernel
theorem eX1_sizeOf_38 : dec cX1_sizeOf 38 (.iload_n 2) 1 39 := ⟨dX1_sizeOf_38, rfl⟩
theorem dX1_sizeOf_39 : decode cX1_sizeOf 39 = .ok (.istore_n 2, 1) := by decide +kernel
theorem eX1_sizeOf_39 : dec cX1_sizeOf 39 (.istore_n 2) 1 40 := ⟨dX1_sizeOf_39, rfl⟩
theorem dX1_sizeOf_40 : decode cX1_sizeOf 40 = .ok (.iinc 3 1, 3) := by decide +kernel
theorem eX1_sizeOf_40 : dec cX1_sizeOf 40 (.iinc 3 1) 3 43 := ⟨dX1_sizeOf_40, rfl⟩
theorem dX1_sizeOf_43 : decode cX1_sizeOf 43 = .ok (.goto (-39), 3) := by decide +kernel
theorem eX1_sizeOf_43 : dec cX1_sizeOf 43 (.goto (-39)) 3 46 := ⟨dX1_sizeOf_43, rfl⟩
theorem dX1_sizeOf_46 : decode cX1_sizeOf 46 = .ok (.iload_n 2, 1) := by decide +kernel
theorem eX1_sizeOf_46 : dec cX1_sizeOf 46 (.iload_n 2) 1 47 := ⟨dX1_sizeOf_46, rfl⟩
theorem dX1_sizeOf_47 : decode cX1_sizeOf 47 = .ok (.ireturn, 1) := by decide +kernel
theorem eX1_sizeOf_47 : dec cX1_sizeOf 47 .ireturn 1 48 := ⟨dX1_sizeOf_47, rfl⟩
theorem dX1_tell_0 : decode cX1_tell 0 = .ok (.bipush 7, 2) := by decide +kernel
theorem eX1_tell_0 : dec cX1_tell 0 (.bipush 7) 2 2 := ⟨dX1_tell_0, rfl⟩
theorem dX1_tell_2 : decode cX1_tell 2 = .ok (.aload_n 0, 1) := by decide +kernel
theorem eX1_tell_2 : dec cX1_tell 2 (.aload_n 0) 1 3 := ⟨dX1_tell_2, rfl⟩
theorem dX1_tell_3 : decode cX1_tell 3 = .ok (.getfield 75, 3) := by decide +kernel
theorem eX1_tell_3 : dec cX1_tell 3 (.getfield 75) 3 6 := ⟨dX1_tell_3, rfl⟩
theorem dX1_tell_6 : decode cX1_tell 6 = .ok (.imul, 1) := by decide +kernel
theorem eX1_tell_6 : dec cX1_tell 6 .imul 1 7 := ⟨dX1_tell_6, rfl⟩
theorem dX1_tell_7 : decode cX1_tell 7 = .ok (.istore_n 2, 1) := by decide +kernel
theorem eX1_tell_7 : dec cX1_tell 7 (.istore_n 2) 1 8 := ⟨dX1_tell_7, rfl⟩
theorem dX1_tell_8 : decode cX1_tell 8 = .ok (.aload_n 0, 1) := by decide +kernel
theorem eX1_tell_8 : dec cX1_tell 8 (.aload_n 0) 1 9 := ⟨dX1_tell_8, rfl⟩
theorem dX1_tell_9 : decode cX1_tell 9 = .ok (.getfield 25, 3) := by decide +kernel
theorem eX1_tell_9 : dec cX1_tell 9 (.getfield 25) 3 12 := ⟨dX1_tell_9, rfl⟩
theorem dX1_tell_12 : decode cX1_tell 12 = .ok (.iload_n 2, 1) := by decide +kernel
theorem eX1_tell_12 : dec cX1_tell 12 (.iload_n 2) 1 13 := ⟨dX1_tell_12, rfl⟩
theorem dX1_tell_13 : decode cX1_tell 13 = .ok (.aload_n 0, 1) := by decide +kernel
theorem eX1_tell_13 : dec cX1_tell 13 (.aload_n 0) 1 14 := ⟨dX1_tell_13, rfl⟩
theorem dX1_tell_14 : decode cX1_tell 14 = .ok (.getfield 35, 3) := by decide +kernel
theorem eX1_tell_14 : dec cX1_tell 14 (.getfield 35) 3 17 := ⟨dX1_tell_14, rfl⟩
theorem dX1_tell_17 : decode cX1_tell 17 = .ok (.iastore, 1) := by decide +kernel
theorem eX1_tell_17 : dec cX1_tell 17 .iastore 1 18 := ⟨dX1_tell_17, rfl⟩
theorem dX1_tell_18 : decode cX1_tell 18 = .ok (.aload_n 0, 1) := by decide +kernel
theorem eX1_tell_18 : dec cX1_tell 18 (.aload_n 0) 1 19 := ⟨dX1_tell_18, rfl⟩
theorem dX1_tell_19 : decode cX1_tell 19 = .ok (.getfield 25, 3) := by decide +kernel
theorem eX1_tell_19 : dec cX1_tell 19 (.getfield 25) 3 22 := ⟨dX1_tell_19, rfl⟩
theorem dX1_tell_22 : decode cX1_tell 22 = .ok (.iload_n 2, 1) := by decide +kernel
theorem eX1_tell_22 : dec cX1_tell 22 (.iload_n 2) 1 23 := ⟨dX1_tell_22, rfl⟩
theorem dX1_tell_23 : decode cX1_tell 23 = .ok (.iconst 1, 1) := by decide +kernel
theorem eX1_tell_23 : dec cX1_tell 23 (.iconst 1) 1 24 := ⟨dX1_tell_23, rfl⟩
theorem dX1_tell_24 : decode cX1_tell 24 = .ok (.iadd, 1) := by decide +kernel
theorem eX1_tell_24 : dec cX1_tell 24 .iadd 1 25 := ⟨dX1_tell_24, rfl⟩
theorem dX1_tell_25 : decode cX1_tell 25 = .ok (.aload_n 0, 1) := by decide +kernel
theorem eX1_tell_25 : dec cX1_tell 25 (.aload_n 0) 1 26 := ⟨dX1_tell_25, rfl⟩
theorem dX1_tell_26 : decode cX1_tell 26 = .ok (.getfield 39, 3) := by decide +kernel
theorem eX1_tell_26 : dec cX1_tell 26 (.getfield 39) 3 29 := ⟨dX1_tell_26, rfl⟩
theorem dX1_tell_29 : decode cX1_tell 29 = .ok (.iastore, 1) := by decide +kernel
theorem eX1_tell_29 : dec cX1_tell 29 .iastore 1 30 := ⟨dX1_tell_29, rfl⟩
theorem dX1_tell_30 : decode cX1_tell 30 = .ok (.aload_n 0, 1) := by decide +kernel
theorem eX1_tell_30 : dec cX1_tell 30 (.aload_n 0) 1 31 := ⟨dX1_tell_30, rfl⟩
theorem dX1_tell_31 : decode cX1_tell 31 = .ok (.getfield 25, 3) := by decide +kernel
theorem eX1_tell_31 : dec cX1_tell 31 (.getfield 25) 3 34 := ⟨dX1_tell_31, rfl⟩
theorem dX1_tell_34 : decode cX1_tell 34 = .ok (.iload_n 2, 1) := by decide +kernel
theorem eX1_tell_34 : dec cX1_tell 34 (.iload_n 2) 1 35 := ⟨dX1_tell_34, rfl⟩
theorem dX1_tell_35 : decode cX1_tell 35 = .ok (.iconst 2, 1) := by decide +kernel
theorem eX1_tell_35 : dec cX1_tell 35 (.iconst 2) 1 36 := ⟨dX1_tell_35, rfl⟩
theorem dX1_tell_36 : decode cX1_tell 36 = .ok (.iadd, 1) := by decide +kernel
theorem eX1_tell_36 : dec cX1_tell 36 .iadd 1 37 := ⟨dX1_tell_36, rfl⟩
theorem dX1_tell_37 : decode cX1_tell 37 = .ok (.iconst (-1), 1) := by decide +kernel
theorem eX1_tell_37 : dec cX1_tell 37 (.iconst (-1)) 1 38 := ⟨dX1_tell_37, rfl⟩
theorem dX1_tell_38 : decode cX1_tell 38 = .ok (.iastore, 1) := by decide +kernel
theorem eX1_tell_38 : dec cX1_tell 38 .iastore 1 39 := ⟨dX1_tell_38, rfl⟩
theorem dX1_tell_39 : decode cX1_tell 39 = .ok (.aload_n 0, 1) := by decide +kernel
theorem eX1_tell_39 : dec cX1_tell 39 (.aload_n 0) 1 40 := ⟨dX1_tell_39, rfl⟩
theorem dX1_tell_40 : decode cX1_tell 40 = .ok (.getfield 25, 3) := by decide +kernel
theorem eX1_tell_40 : dec cX1_tell 40 (.getfield 25) 3 43 := ⟨dX1_tell_40, rfl⟩
theorem dX1_tell_43 : decode cX1_tell 43 = .ok (.iload_n 2, 1) := by decide +kernel
theorem eX1_tell_43 : dec cX1_tell 43 (.iload_n 2) 1 44 := ⟨dX1_tell_43, rfl⟩
theorem dX1_tell_44 : decode cX1_tell 44 = .ok (.iconst 3, 1) := by decide +kernel
theorem eX1_tell_44 : dec cX1_tell 44 (.iconst 3) 1 45 := ⟨dX1_tell_44, rfl⟩
theorem dX1_tell_45 : decode cX1_tell 45 = .ok (.iadd, 1) := by decide +kernel
theorem eX1_tell_45 : dec cX1_tell 45 .iadd 1 46 := ⟨dX1_tell_45, rfl⟩
theorem dX1_tell_46 : decode cX1_tell 46 = .ok (.iconst (-1), 1) := by decide +kernel
theorem eX1_tell_46 : dec cX1_tell 46 (.iconst (-1)) 1 47 := ⟨dX1_tell_46, rfl⟩
theorem dX1_tell_47 : decode cX1_tell 47 = .ok (.iastore, 1) := by decide +kernel
theorem eX1_tell_47 : dec cX1_tell 47 .iastore 1 48 := ⟨dX1_tell_47, rfl⟩
theorem dX1_tell_48 : decode cX1_tell 48 = .ok (.aload_n 0, 1) := by decide +kernel
theorem eX1_tell_48 : dec cX1_tell 48 (.aload_n 0) 1 49 := ⟨dX1_tell_48, rfl⟩
theorem dX1_tell_49 : decode cX1_tell 49 = .ok (.getfield 25, 3) := by decide +kernel
theorem eX1_tell_49 : dec cX1_tell 49 (.getfield 25) 3 52 := ⟨dX1_tell_49, rfl⟩
theorem dX1_tell_52 : decode cX1_tell 52 = .ok (.iload_n 2, 1) := by decide +kernel
theorem eX1_tell_52 : dec cX1_tell 52 (.iload_n 2) 1 53 := ⟨dX1_tell_52, rfl⟩
theorem dX1_tell_53 : decode cX1_tell 53 = .ok (.iconst 4, 1) := by decide +kernel
theorem eX1_tell_53 : dec cX1_tell 53 (.iconst 4) 1 54 := ⟨dX1_tell_53, rfl⟩
theorem dX1_tell_54 : decode cX1_tell 54 = .ok (.iadd, 1) := by decide +kernel
theorem eX1_tell_54 : dec cX1_tell 54 .iadd 1 55 := ⟨dX1_tell_54, rfl⟩
theorem dX1_tell_55 : decode cX1_tell 55 = .ok (.iconst 0, 1) := by decide +kernel
theorem eX1_tell_55 : dec cX1_tell 55 (.iconst 0) 1 56 := ⟨dX1_tell_55, rfl⟩
theorem dX1_tell_56 : decode cX1_tell 56 = .ok (.iastore, 1) := by decide +kernel
theorem eX1_tell_56 : dec cX1_tell 56 .iastore 1 57 := ⟨dX1_tell_56, rfl⟩
theorem dX1_tell_57 : decode cX1_tell 57 = .ok (.aload_n 0, 1) := by decide +kernel
theorem eX1_tell_57 : dec cX1_tell 57 (.aload_n 0) 1 58 := ⟨dX1_tell_57, rfl⟩
theorem dX1_tell_58 : decode cX1_tell 58 = .ok (.getfield 25, 3) := by decide +kernel
theorem eX1_tell_58 : dec cX1_tell 58 (.getfield 25) 3 61 := ⟨dX1_tell_58, rfl⟩
theorem dX1_tell_61 : decode cX1_tell 61 = .ok (.iload_n 2, 1) := by decide +kernel
theorem eX1_tell_61 : dec cX1_tell 61 (.iload_n 2) 1 62 := ⟨dX1_tell_61, rfl⟩
theorem dX1_tell_62 : decode cX1_tell 62 = .ok (.iconst 5, 1) := by decide +kernel
theorem eX1_tell_62 : dec cX1_tell 62 (.iconst 5) 1 63 := ⟨dX1_tell_62, rfl⟩
theorem dX1_tell_63 : decode cX1_tell 63 = .ok (.iadd, 1) := by decide +kernel
theorem eX1_tell_63 : dec cX1_tell 63 .iadd 1 64 := ⟨dX1_tell_63, rfl⟩
theorem dX1_tell_64 : decode cX1_tell 64 = .ok (.iconst 0, 1) := by decide +kernel
theorem eX1_tell_64 : dec cX1_tell 64 (.iconst 0) 1 65 := ⟨dX1_tell_64, rfl⟩
theorem dX1_tell_65 : decode cX1_tell 65 = .ok (.iastore, 1) := by decide +kernel
theorem eX1_tell_65 : dec cX1_tell 65 .iastore 1 66 := ⟨dX1_tell_65, rfl⟩
theorem dX1_tell_66 : decode cX1_tell 66 = .ok (.aload_n 0, 1) := by decide +kernel
theorem eX1_tell_66 : dec cX1_tell 66 (.aload_n 0) 1 67 := ⟨dX1_tell_66, rfl⟩
theorem dX1_tell_67 : decode cX1_tell 67 = .ok (.getfield 25, 3) := by decide +kernel
theorem eX1_tell_67 : dec cX1_tell 67 (.getfield 25) 3 70 := ⟨dX1_tell_67, rfl⟩
theorem dX1_tell_70 : decode cX1_tell 70 = .ok (.iload_n 2, 1) := by decide +kernel
theorem eX1_tell_70 : dec cX1_tell 70 (.iload_n 2) 1 71 := ⟨dX1_tell_70, rfl⟩
theorem dX1_tell_71 : decode cX1_tell 71 = .ok (.bipush 6, 2) := by decide +kernel
theorem eX1_tell_71 : dec cX1_tell 71 (.bipush 6) 2 73 := ⟨dX1_tell_71, rfl⟩
theorem dX1_tell_73 : decode cX1_tell 73 = .ok (.iadd, 1) := by decide +kernel
theorem eX1_tell_73 : dec cX1_tell 73 .iadd 1 74 := ⟨dX1_tell_73, rfl⟩
theorem dX1_tell_74 : decode cX1_tell 74 = .ok (.iconst 0, 1) := by decide +kernel
theorem eX1_tell_74 : dec cX1_tell 74 (.iconst 0) 1 75 := ⟨dX1_tell_74, rfl⟩
theorem dX1_tell_75 : decode cX1_tell 75 = .ok (.iastore, 1) := by decide +kernel
theorem eX1_tell_75 : dec cX1_tell 75 .iastore 1 76 := ⟨dX1_tell_75, rfl⟩
theorem dX1_tell_76 : decode cX1_tell 76 = .ok (.iconst 0, 1) := by decide +kernel
theorem eX1_tell_76 : dec cX1_tell 76 (.iconst 0) 1 77 := ⟨dX1_tell_76, rfl⟩
theorem dX1_tell_77 : decode cX1_tell 77 = .ok (.istore_n 3, 1) := by decide +kernel
theorem eX1_tell_77 : dec cX1_tell 77 (.istore_n 3) 1 78 := ⟨dX1_tell_77, rfl⟩
theorem dX1_tell_78 : decode cX1_tell 78 = .ok (.iload_n 3, 1) := by decide +kernel
theorem eX1_tell_78 : dec cX1_tell 78 (.iload_n 3) 1 79 := ⟨dX1_tell_78, rfl⟩
theorem dX1_tell_79 : decode cX1_tell 79 = .ok (.aload_n 0, 1) := by decide +kernel
theorem eX1_tell_79 : dec cX1_tell 79 (.aload_n 0) 1 80 := ⟨dX1_tell_79, rfl⟩
theorem dX1_tell_80 : decode cX1_tell 80 = .ok (.getfield 42, 3) := by decide +kernel
theorem eX1_tell_80 : dec cX1_tell 80 (.getfield 42) 3 83 := ⟨dX1_tell_80, rfl⟩
theorem dX1_tell_83 : decode cX1_tell 83 = .ok (.if_icmp .ge 227, 3) := by decide +kernel
theorem eX1_tell_83 : dec cX1_tell 83 (.if_icmp .ge 227) 3 86 := ⟨dX1_tell_83, rfl⟩
theorem dX1_tell_86 : decode cX1_tell 86 = .ok (.aload_n 0, 1) := by decide +kernel
theorem eX1_tell_86 : dec cX1_tell 86 (.aload_n 0) 1 87 := ⟨dX1_tell_86, rfl⟩
theorem dX1_tell_87 : decode cX1_tell 87 = .ok (.getfield 13, 3) := by decide +kernel
theorem eX1_tell_87 : dec cX1_tell 87 (.getfield 13) 3 90 := ⟨dX1_tell_87, rfl⟩
theorem dX1_tell_90 : decode cX1_tell 90 = .ok (.iload_n 3, 1) := by decide +kernel
theorem eX1_tell_90 : dec cX1_tell 90 (.iload_n 3) 1 91 := ⟨dX1_tell_90, rfl⟩
theorem dX1_tell_91 : decode cX1_tell 91 = .ok (.iaload, 1) := by decide +kernel
theorem eX1_tell_91 : dec cX1_tell 91 .iaload 1 92 := ⟨dX1_tell_91, rfl⟩
theorem dX1_tell_92 : decode cX1_tell 92 = .ok (.iconst 1, 1) := by decide +kernel
theorem eX1_tell_92 : dec cX1_tell 92 (.iconst 1) 1 93 := ⟨dX1_tell_92, rfl⟩
theorem dX1_tell_93 : decode cX1_tell 93 = .ok (.if_icmp .ne 211, 3) := by decide +kernel
theorem eX1_tell_93 : dec cX1_tell 93 (.if_icmp .ne 211) 3 96 := ⟨dX1_tell_93, rfl⟩
theorem dX1_tell_96 : decode cX1_tell 96 = .ok (.aload_n 0, 1) := by decide +kernel
theorem eX1_tell_96 : dec cX1_tell 96 (.aload_n 0) 1 97 := ⟨dX1_tell_96, rfl⟩
theorem dX1_tell_97 : decode cX1_tell 97 = .ok (.getfield 19, 3) := by decide +kernel
theorem eX1_tell_97 : dec cX1_tell 97 (.getfield 19) 3 100 := ⟨dX1_tell_97, rfl⟩
theorem dX1_tell_100 : decode cX1_tell 100 = .ok (.iload_n 3, 1) := by decide +kernel
theorem eX1_tell_100 : dec cX1_tell 100 (.iload_n 3) 1 101 := ⟨dX1_tell_100, rfl⟩
theorem dX1_tell_101 : decode cX1_tell 101 = .ok (.iaload, 1) := by decide +kernel
theorem eX1_tell_101 : dec cX1_tell 101 .iaload 1 102 := ⟨dX1_tell_101, rfl⟩
theorem dX1_tell_102 : decode cX1_tell 102 = .ok (.iload_n 1, 1) := by decide +kernel
theorem eX1_tell_102 : dec cX1_tell 102 (.iload_n 1) 1 103 := ⟨dX1_tell_102, rfl⟩
theorem dX1_tell_103 : decode cX1_tell 103 = .ok (.if_icmp .ne 201, 3) := by decide +kernel
theorem eX1_tell_103 : dec cX1_tell 103 (.if_icmp .ne 201) 3 106 := ⟨dX1_tell_103, rfl⟩
theorem dX1_tell_106 : decode cX1_tell 106 = .ok (.iload_n 3, 1) := by decide +kernel
theorem eX1_tell_106 : dec cX1_tell 106 (.iload_n 3) 1 107 := ⟨dX1_tell_106, rfl⟩
theorem dX1_tell_107 : decode cX1_tell 107 = .ok (.aload_n 0, 1) := by decide +kernel
theorem eX1_tell_107 : dec cX1_tell 107 (.aload_n 0) 1 108 := ⟨dX1_tell_107, rfl⟩
theorem dX1_tell_108 : decode cX1_tell 108 = .ok (.getfield 35, 3) := by decide +kernel
theorem eX1_tell_108 : dec cX1_tell 108 (.getfield 35) 3 111 := ⟨dX1_tell_108, rfl⟩
theorem dX1_tell_111 : decode cX1_tell 111 = .ok (.irem, 1) := by decide +kernel
theorem eX1_tell_111 : dec cX1_tell 111 .irem 1 112 := ⟨dX1_tell_111, rfl⟩
theorem dX1_tell_112 : decode cX1_tell 112 = .ok (.istore 4, 2) := by decide +kernel
theorem eX1_tell_112 : dec cX1_tell 112 (.istore 4) 2 114 := ⟨dX1_tell_112, rfl⟩
theorem dX1_tell_114 : decode cX1_tell 114 = .ok (.iload_n 3, 1) := by decide +kernel
theorem eX1_tell_114 : dec cX1_tell 114 (.iload_n 3) 1 115 := ⟨dX1_tell_114, rfl⟩
theorem dX1_tell_115 : decode cX1_tell 115 = .ok (.aload_n 0, 1) := by decide +kernel
theorem eX1_tell_115 : dec cX1_tell 115 (.aload_n 0) 1 116 := ⟨dX1_tell_115, rfl⟩
theorem dX1_tell_116 : decode cX1_tell 116 = .ok (.getfield 35, 3) := by decide +kernel
theorem eX1_tell_116 : dec cX1_tell 116 (.getfield 35) 3 119 := ⟨dX1_tell_116, rfl⟩
theorem dX1_tell_119 : decode cX1_tell 119 = .ok (.idiv, 1) := by decide +kernel
theorem eX1_tell_119 : dec cX1_tell 119 .idiv 1 120 := ⟨dX1_tell_119, rfl⟩
theorem dX1_tell_120 : decode cX1_tell 120 = .ok (.istore 5, 2) := by decide +kernel
theorem eX1_tell_120 : dec cX1_tell 120 (.istore 5) 2 122 := ⟨dX1_tell_120, rfl⟩
theorem dX1_tell_122 : decode cX1_tell 122 = .ok (.aload_n 0, 1) := by decide +kernel
theorem eX1_tell_122 : dec cX1_tell 122 (.aload_n 0) 1 123 := ⟨dX1_tell_122, rfl⟩
theorem dX1_tell_123 : decode cX1_tell 123 = .ok (.getfield 25, 3) := by decide +kernel
theorem eX1_tell_123 : dec cX1_tell 123 (.getfield 25) 3 126 := ⟨dX1_tell_123, rfl⟩
theorem dX1_tell_126 : decode cX1_tell 126 = .ok (.iload_n 2, 1) := by decide +kernel
theorem eX1_tell_126 : dec cX1_tell 126 (.iload_n 2) 1 127 := ⟨dX1_tell_126, rfl⟩
theorem dX1_tell_127 : decode cX1_tell 127 = .ok (.iload 4, 2) := by decide +kernel
theorem eX1_tell_127 : dec cX1_tell 127 (.iload 4) 2 129 := ⟨dX1_tell_127, rfl⟩
theorem dX1_tell_129 : decode cX1_tell 129 = .ok (.aload_n 0, 1) := by decide +kernel
theorem eX1_tell_129 : dec cX1_tell 129 (.aload_n 0) 1 130 := ⟨dX1_tell_129, rfl⟩
theorem dX1_tell_130 : decode cX1_tell 130 = .ok (.getfield 25, 3) := by decide +kernel
theorem eX1_tell_130 : dec cX1_tell 130 (.getfield 25) 3 133 := ⟨dX1_tell_130, rfl⟩
theorem dX1_tell_133 : decode cX1_tell 133 = .ok (.iload_n 2, 1) := by decide +kernel
theorem eX1_tell_133 : dec cX1_tell 133 (.iload_n 2) 1 134 := ⟨dX1_tell_133, rfl⟩
theorem dX1_tell_134 : decode cX1_tell 134 = .ok (.iaload, 1) := by decide +kernel
theorem eX1_tell_134 : dec cX1_tell 134 .iaload 1 135 := ⟨dX1_tell_134, rfl⟩
theorem dX1_tell_135 : decode cX1_tell 135 = .ok (.if_icmp .ge 8, 3) := by decide +kernel
theorem eX1_tell_135 : dec cX1_tell 135 (.if_icmp .ge 8) 3 138 := ⟨dX1_tell_135, rfl⟩
theorem dX1_tell_138 : decode cX1_tell 138 = .ok (.iload 4, 2) := by decide +kernel
theorem eX1_tell_138 : dec cX1_tell 138 (.iload 4) 2 140 := ⟨dX1_tell_138, rfl⟩
theorem dX1_tell_140 : decode cX1_tell 140 = .ok (.goto 9, 3) := by decide +kernel
theorem eX1_tell_140 : dec cX1_tell 140 (.goto 9) 3 143 := ⟨dX1_tell_140, rfl⟩
theorem dX1_tell_143 : decode cX1_tell 143 = .ok (.aload_n 0, 1) := by decide +kernel
theorem eX1_tell_143 : dec cX1_tell 143 (.aload_n 0) 1 144 := ⟨dX1_tell_143, rfl⟩
theorem dX1_tell_144 : decode cX1_tell 144 = .ok (.getfield 25, 3) := by decide +kernel
theorem eX1_tell_144 : dec cX1_tell 144 (.getfield 25) 3 147 := ⟨dX1_tell_144, rfl⟩
theorem dX1_tell_147 : decode cX1_tell 147 = .ok (.iload_n 2, 1) := by decide +kernel
theorem eX1_tell_147 : dec cX1_tell 147 (.iload_n 2) 1 148 := ⟨dX1_tell_147, rfl⟩
theorem dX1_tell_148 : decode cX1_tell 148 = .ok (.iaload, 1) := by decide +kernel
theorem eX1_tell_148 : dec cX1_tell 148 .iaload 1 149 := ⟨dX1_tell_148, rfl⟩
theorem dX1_tell_149 : decode cX1_tell 149 = .ok (.iastore, 1) := by decide +kernel
theorem eX1_tell_149 : dec cX1_tell 149 .iastore 1 150 := ⟨dX1_tell_149, rfl⟩
theorem dX1_tell_150 : decode cX1_tell 150 = .ok (.aload_n 0, 1) := by decide +kernel
theorem eX1_tell_150 : dec cX1_tell 150 (.aload_n 0) 1 151 := ⟨dX1_tell_150, rfl⟩
theorem dX1_tell_151 : decode cX1_tell 151 = .ok (.getfield 25, 3) := by decide +kernel
theorem eX1_tell_151 : dec cX1_tell 151 (.getfield 25) 3 154 := ⟨dX1_tell_151, rfl⟩
theorem dX1_tell_154 : decode cX1_tell 154 = .ok (.iload_n 2, 1) := by decide +kernel
theorem eX1_tell_154 : dec cX1_tell 154 (.iload_n 2) 1 155 := ⟨dX1_tell_154, rfl⟩
theorem dX1_tell_155 : decode cX1_tell 155 = .ok (.iconst 1, 1) := by decide +kernel
theorem eX1_tell_155 : dec cX1_tell 155 (.iconst 1) 1 156 := ⟨dX1_tell_155, rfl⟩
theorem dX1_tell_156 : decode cX1_tell 156 = .ok (.iadd, 1) := by decide +kernel
theorem eX1_tell_156 : dec cX1_tell 156 .iadd 1 157 := ⟨dX1_tell_156, rfl⟩
theorem dX1_tell_157 : decode cX1_tell 157 = .ok (.iload 5, 2) := by decide +kernel
theorem eX1_tell_157 : dec cX1_tell 157 (.iload 5) 2 159 := ⟨dX1_tell_157, rfl⟩
theorem dX1_tell_159 : decode cX1_tell 159 = .ok (.aload_n 0, 1) := by decide +kernel
theorem eX1_tell_159 : dec cX1_tell 159 (.aload_n 0) 1 160 := ⟨dX1_tell_159, rfl⟩
theorem dX1_tell_160 : decode cX1_tell 160 = .ok (.getfield 25, 3) := by decide +kernel
theorem eX1_tell_160 : dec cX1_tell 160 (.getfield 25) 3 163 := ⟨dX1_tell_160, rfl⟩
theorem dX1_tell_163 : decode cX1_tell 163 = .ok (.iload_n 2, 1) := by decide +kernel
theorem eX1_tell_163 : dec cX1_tell 163 (.iload_n 2) 1 164 := ⟨dX1_tell_163, rfl⟩
theorem dX1_tell_164 : decode cX1_tell 164 = .ok (.iconst 1, 1) := by decide +kernel
theorem eX1_tell_164 : dec cX1_tell 164 (.iconst 1) 1 165 := ⟨dX1_tell_164, rfl⟩
theorem dX1_tell_165 : decode cX1_tell 165 = .ok (.iadd, 1) := by decide +kernel
theorem eX1_tell_165 : dec cX1_tell 165 .iadd 1 166 := ⟨dX1_tell_165, rfl⟩
theorem dX1_tell_166 : decode cX1_tell 166 = .ok (.iaload, 1) := by decide +kernel
theorem eX1_tell_166 : dec cX1_tell 166 .iaload 1 167 := ⟨dX1_tell_166, rfl⟩
theorem dX1_tell_167 : decode cX1_tell 167 = .ok (.if_icmp .ge 8, 3) := by decide +kernel
theorem eX1_tell_167 : dec cX1_tell 167 (.if_icmp .ge 8) 3 170 := ⟨dX1_tell_167, rfl⟩
theorem dX1_tell_170 : decode cX1_tell 170 = .ok (.iload 5, 2) := by decide +kernel
theorem eX1_tell_170 : dec cX1_tell 170 (.iload 5) 2 172 := ⟨dX1_tell_170, rfl⟩
theorem dX1_tell_172 : decode cX1_tell 172 = .ok (.goto 11, 3) := by decide +kernel
theorem eX1_tell_172 : dec cX1_tell 172 (.goto 11) 3 175 := ⟨dX1_tell_172, rfl⟩
theorem dX1_tell_175 : decode cX1_tell 175 = .ok (.aload_n 0, 1) := by decide +kernel
theorem eX1_tell_175 : dec cX1_tell 175 (.aload_n 0) 1 176 := ⟨dX1_tell_175, rfl⟩
theorem dX1_tell_176 : decode cX1_tell 176 = .ok (.getfield 25, 3) := by decide +kernel
theorem eX1_tell_176 : dec cX1_tell 176 (.getfield 25) 3 179 := ⟨dX1_tell_176, rfl⟩
theorem dX1_tell_179 : decode cX1_tell 179 = .ok (.iload_n 2, 1) := by decide +kernel
theorem eX1_tell_179 : dec cX1_tell 179 (.iload_n 2) 1 180 := ⟨dX1_tell_179, rfl⟩
theorem dX1_tell_180 : decode cX1_tell 180 = .ok (.iconst 1, 1) := by decide +kernel
theorem eX1_tell_180 : dec cX1_tell 180 (.iconst 1) 1 181 := ⟨dX1_tell_180, rfl⟩
theorem dX1_tell_181 : decode cX1_tell 181 = .ok (.iadd, 1) := by decide +kernel
theorem eX1_tell_181 : dec cX1_tell 181 .iadd 1 182 := ⟨dX1_tell_181, rfl⟩
theorem dX1_tell_182 : decode cX1_tell 182 = .ok (.iaload, 1) := by decide +kernel
theorem eX1_tell_182 : dec cX1_tell 182 .iaload 1 183 := ⟨dX1_tell_182, rfl⟩
theorem dX1_tell_183 : decode cX1_tell 183 = .ok (.iastore, 1) := by decide +kernel
theorem eX1_tell_183 : dec cX1_tell 183 .iastore 1 184 := ⟨dX1_tell_183, rfl⟩
theorem dX1_tell_184 : decode cX1_tell 184 = .ok (.aload_n 0, 1) := by decide +kernel
theorem eX1_tell_184 : dec cX1_tell 184 (.aload_n 0) 1 185 := ⟨dX1_tell_184, rfl⟩
theorem dX1_tell_185 : decode cX1_tell 185 = .ok (.getfield 25, 3) := by decide +kernel
theorem eX1_tell_185 : dec cX1_tell 185 (.getfield 25) 3 188 := ⟨dX1_tell_185, rfl⟩
theorem dX1_tell_188 : decode cX1_tell 188 = .ok (.iload_n 2, 1) := by decide +kernel
theorem eX1_tell_188 : dec cX1_tell 188 (.iload_n 2) 1 189 := ⟨dX1_tell_188, rfl⟩
theorem dX1_tell_189 : decode cX1_tell 189 = .ok (.iconst 2, 1) := by decide +kernel
theorem eX1_tell_189 : dec cX1_tell 189 (.iconst 2) 1 190 := ⟨dX1_tell_189, rfl⟩
theorem dX1_tell_190 : decode cX1_tell 190 = .ok (.iadd, 1) := by decide +kernel
theorem eX1_tell_190 : dec cX1_tell 190 .iadd 1 191 := ⟨dX1_tell_190, rfl⟩
theorem dX1_tell_191 : decode cX1_tell 191 = .ok (.iload 4, 2) := by decide +kernel
theorem eX1_tell_191 : dec cX1_tell 191 (.iload 4) 2 193 := ⟨dX1_tell_191, rfl⟩
theorem dX1_tell_193 : decode cX1_tell 193 = .ok (.aload_n 0, 1) := by decide +kernel
theorem eX1_tell_193 : dec cX1_tell 193 (.aload_n 0) 1 194 := ⟨dX1_tell_193, rfl⟩
theorem dX1_tell_194 : decode cX1_tell 194 = .ok (.getfield 25, 3) := by decide +kernel
theorem eX1_tell_194 : dec cX1_tell 194 (.getfield 25) 3 197 := ⟨dX1_tell_194, rfl⟩
theorem dX1_tell_197 : decode cX1_tell 197 = .ok (.iload_n 2, 1) := by decide +kernel
theorem eX1_tell_197 : dec cX1_tell 197 (.iload_n 2) 1 198 := ⟨dX1_tell_197, rfl⟩
theorem dX1_tell_198 : decode cX1_tell 198 = .ok (.iconst 2, 1) := by decide +kernel
theorem eX1_tell_198 : dec cX1_tell 198 (.iconst 2) 1 199 := ⟨dX1_tell_198, rfl⟩
theorem dX1_tell_199 : decode cX1_tell 199 = .ok (.iadd, 1) := by decide +kernel
theorem eX1_tell_199 : dec cX1_tell 199 .iadd 1 200 := ⟨dX1_tell_199, rfl⟩
theorem dX1_tell_200 : decode cX1_tell 200 = .ok (.iaload, 1) := by decide +kernel
theorem eX1_tell_200 : dec cX1_tell 200 .iaload 1 201 := ⟨dX1_tell_200, rfl⟩
theorem dX1_tell_201 : decode cX1_tell 201 = .ok (.if_icmp .le 8, 3) := by decide +kernel
theorem eX1_tell_201 : dec cX1_tell 201 (.if_icmp .le 8) 3 204 := ⟨dX1_tell_201, rfl⟩
theorem dX1_tell_204 : decode cX1_tell 204 = .ok (.iload 4, 2) := by decide +kernel
theorem eX1_tell_204 : dec cX1_tell 204 (.iload 4) 2 206 := ⟨dX1_tell_204, rfl⟩
theorem dX1_tell_206 : decode cX1_tell 206 = .ok (.goto 11, 3) := by decide +kernel
theorem eX1_tell_206 : dec cX1_tell 206 (.goto 11) 3 209 := ⟨dX1_tell_206, rfl⟩
theorem dX1_tell_209 : decode cX1_tell 209 = .ok (.aload_n 0, 1) := by decide +kernel
theorem eX1_tell_209 : dec cX1_tell 209 (.aload_n 0) 1 210 := ⟨dX1_tell_209, rfl⟩
theorem dX1_tell_210 : decode cX1_tell 210 = .ok (.getfield 25, 3) := by decide +kernel
theorem eX1_tell_210 : dec cX1_tell 210 (.getfield 25) 3 213 := ⟨dX1_tell_210, rfl⟩
theorem dX1_tell_213 : decode cX1_tell 213 = .ok (.iload_n 2, 1) := by decide +kernel
theorem eX1_tell_213 : dec cX1_tell 213 (.iload_n 2) 1 214 := ⟨dX1_tell_213, rfl⟩
theorem dX1_tell_214 : decode cX1_tell 214 = .ok (.iconst 2, 1) := by decide +kernel
theorem eX1_tell_214 : dec cX1_tell 214 (.iconst 2) 1 215 := ⟨dX1_tell_214, rfl⟩
theorem dX1_tell_215 : decode cX1_tell 215 = .ok (.iadd, 1) := by decide +kernel
theorem eX1_tell_215 : dec cX1_tell 215 .iadd 1 216 := ⟨dX1_tell_215, rfl⟩
theorem dX1_tell_216 : decode cX1_tell 216 = .ok (.iaload, 1) := by decide +kernel
theorem eX1_tell_216 : dec cX1_tell 216 .iaload 1 217 := ⟨dX1_tell_216, rfl⟩
theorem dX1_tell_217 : decode cX1_tell 217 = .ok (.iastore, 1) := by decide +kernel
theorem eX1_tell_217 : dec cX1_tell 217 .iastore 1 218 := ⟨dX1_tell_217, rfl⟩
theorem dX1_tell_218 : decode cX1_tell 218 = .ok (.aload_n 0, 1) := by decide +kernel
theorem eX1_tell_218 : dec cX1_tell 218 (.aload_n 0) 1 219 := ⟨dX1_tell_218, rfl⟩
theorem dX1_tell_219 : decode cX1_tell 219 = .ok (.getfield 25, 3) := by decide +kernel
theorem eX1_tell_219 : dec cX1_tell 219 (.getfield 25) 3 222 := ⟨dX1_tell_219, rfl⟩
theorem dX1_tell_222 : decode cX1_tell 222 = .ok (.iload_n 2, 1) := by decide +kernel
theorem eX1_tell_222 : dec cX1_tell 222 (.iload_n 2) 1 223 := ⟨dX1_tell_222, rfl⟩
theorem dX1_tell_223 : decode cX1_tell 223 = .ok (.iconst 3, 1) := by decide +kernel
theorem eX1_tell_223 : dec cX1_tell 223 (.iconst 3) 1 224 := ⟨dX1_tell_223, rfl⟩
theorem dX1_tell_224 : decode cX1_tell 224 = .ok (.iadd, 1) := by decide +kernel
theorem eX1_tell_224 : dec cX1_tell 224 .iadd 1 225 := ⟨dX1_tell_224, rfl⟩
theorem dX1_tell_225 : decode cX1_tell 225 = .ok (.iload 5, 2) := by decide +kernel
theorem eX1_tell_225 : dec cX1_tell 225 (.iload 5) 2 227 := ⟨dX1_tell_225, rfl⟩
theorem dX1_tell_227 : decode cX1_tell 227 = .ok (.aload_n 0, 1) := by decide +kernel
theorem eX1_tell_227 : dec cX1_tell 227 (.aload_n 0) 1 228 := ⟨dX1_tell_227, rfl⟩
theorem dX1_tell_228 : decode cX1_tell 228 = .ok (.getfield 25, 3) := by decide +kernel
theorem eX1_tell_228 : dec cX1_tell 228 (.getfield 25) 3 231 := ⟨dX1_tell_228, rfl⟩
theorem dX1_tell_231 : decode cX1_tell 231 = .ok (.iload_n 2, 1) := by decide +kernel
theorem eX1_tell_231 : dec cX1_tell 231 (.iload_n 2) 1 232 := ⟨dX1_tell_231, rfl⟩
theorem dX1_tell_232 : decode cX1_tell 232 = .ok (.iconst 3, 1) := by decide +kernel
theorem eX1_tell_232 : dec cX1_tell 232 (.iconst 3) 1 233 := ⟨dX1_tell_232, rfl⟩
theorem dX1_tell_233 : decode cX1_tell 233 = .ok (.iadd, 1) := by decide +kernel
theorem eX1_tell_233 : dec cX1_tell 233 .iadd 1 234 := ⟨dX1_tell_233, rfl⟩
theorem dX1_tell_234 : decode cX1_tell 234 = .ok (.iaload, 1) := by decide +kernel
theorem eX1_tell_234 : dec cX1_tell 234 .iaload 1 235 := ⟨dX1_tell_234, rfl⟩
theorem dX1_tell_235 : decode cX1_tell 235 = .ok (.if_icmp .le 8, 3) := by decide +kernel
theorem eX1_tell_235 : dec cX1_tell 235 (.if_icmp .le 8) 3 238 := ⟨dX1_tell_235, rfl⟩
theorem dX1_tell_238 : decode cX1_tell 238 = .ok (.iload 5, 2) := by decide +kernel
theorem eX1_tell_238 : dec cX1_tell 238 (.iload 5) 2 240 := ⟨dX1_tell_238, rfl⟩
theorem dX1_tell_240 : decode cX1_tell 240 = .ok (.goto 11, 3) := by decide +kernel
theorem eX1_tell_240 : dec cX1_tell 240 (.goto 11) 3 243 := ⟨dX1_tell_240, rfl⟩
theorem dX1_tell_243 : decode cX1_tell 243 = .ok (.aload_n 0, 1) := by decide +kernel
theorem eX1_tell_243 : dec cX1_tell 243 (.aload_n 0) 1 244 := ⟨dX1_tell_243, rfl⟩
theorem dX1_tell_244 : decode cX1_tell 244 = .ok (.getfield 25, 3) := by decide +kernel
theorem eX1_tell_244 : dec cX1_tell 244 (.getfield 25) 3 247 := ⟨dX1_tell_244, rfl⟩
theorem dX1_tell_247 : decode cX1_tell 247 = .ok (.iload_n 2, 1) := by decide +kernel
theorem eX1_tell_247 : dec cX1_tell 247 (.iload_n 2) 1 248 := ⟨dX1_tell_247, rfl⟩
theorem dX1_tell_248 : decode cX1_tell 248 = .ok (.iconst 3, 1) := by decide +kernel
theorem eX1_tell_248 : dec cX1_tell 248 (.iconst 3) 1 249 := ⟨dX1_tell_248, rfl⟩
theorem dX1_tell_249 : decode cX1_tell 249 = .ok (.iadd, 1) := by decide +kernel
theorem eX1_tell_249 : dec cX1_tell 249 .iadd 1 250 := ⟨dX1_tell_249, rfl⟩
theorem dX1_tell_250 : decode cX1_tell 250 = .ok (.iaload, 1) := by decide +kernel
theorem eX1_tell_250 : dec cX1_tell 250 .iaload 1 251 := ⟨dX1_tell_250, rfl⟩
theorem dX1_tell_251 : decode cX1_tell 251 = .ok (.iastore, 1) := by decide +kernel
theorem eX1_tell_251 : dec cX1_tell 251 .iastore 1 252 := ⟨dX1_tell_251, rfl⟩
theorem dX1_tell_252 : decode cX1_tell 252 = .ok (.aload_n 0, 1) := by decide +kernel
theorem eX1_tell_252 : dec cX1_tell 252 (.aload_n 0) 1 253 := ⟨dX1_tell_252, rfl⟩
theorem dX1_tell_253 : decode cX1_tell 253 = .ok (.getfield 25, 3) := by decide +kernel
theorem eX1_tell_253 : dec cX1_tell 253 (.getfield 25) 3 256 := ⟨dX1_tell_253, rfl⟩
theorem dX1_tell_256 : decode cX1_tell 256 = .ok (.iload_n 2, 1) := by decide +kernel
theorem eX1_tell_256 : dec cX1_tell 256 (.iload_n 2) 1 257 := ⟨dX1_tell_256, rfl⟩
theorem dX1_tell_257 : decode cX1_tell 257 = .ok (.iconst 4, 1) := by decide +kernel
theorem eX1_tell_257 : dec cX1_tell 257 (.iconst 4) 1 258 := ⟨dX1_tell_257, rfl⟩
theorem dX1_tell_258 : decode cX1_tell 258 = .ok (.iadd, 1) := by decide +kernel
theorem eX1_tell_258 : dec cX1_tell 258 .iadd 1 259 := ⟨dX1_tell_258, rfl⟩
theorem dX1_tell_259 : decode cX1_tell 259 = .ok (.dup2, 1) := by decide +kernel
theorem eX1_tell_259 : dec cX1_tell 259 .dup2 1 260 := ⟨dX1_tell_259, rfl⟩
theorem dX1_tell_260 : decode cX1_tell 260 = .ok (.iaload, 1) := by decide +kernel
theorem eX1_tell_260 : dec cX1_tell 260 .iaload 1 261 := ⟨dX1_tell_260, rfl⟩
theorem dX1_tell_261 : decode cX1_tell 261 = .ok (.iconst 1, 1) := by decide +kernel
theorem eX1_tell_261 : dec cX1_tell 261 (.iconst 1) 1 262 := ⟨dX1_tell_261, rfl⟩
theorem dX1_tell_262 : decode cX1_tell 262 = .ok (.iadd, 1) := by decide +kernel
theorem eX1_tell_262 : dec cX1_tell 262 .iadd 1 263 := ⟨dX1_tell_262, rfl⟩
theorem dX1_tell_263 : decode cX1_tell 263 = .ok (.iastore, 1) := by decide +kernel
theorem eX1_tell_263 : dec cX1_tell 263 .iastore 1 264 := ⟨dX1_tell_263, rfl⟩
theorem dX1_tell_264 : decode cX1_tell 264 = .ok (.aload_n 0, 1) := by decide +kernel
theorem eX1_tell_264 : dec cX1_tell 264 (.aload_n 0) 1 265 := ⟨dX1_tell_264, rfl⟩
theorem dX1_tell_265 : decode cX1_tell 265 = .ok (.getfield 25, 3) := by decide +kernel
theorem eX1_tell_265 : dec cX1_tell 265 (.getfield 25) 3 268 := ⟨dX1_tell_265, rfl⟩
theorem dX1_tell_268 : decode cX1_tell 268 = .ok (.iload_n 2, 1) := by decide +kernel
theorem eX1_tell_268 : dec cX1_tell 268 (.iload_n 2) 1 269 := ⟨dX1_tell_268, rfl⟩
theorem dX1_tell_269 : decode cX1_tell 269 = .ok (.iconst 5, 1) := by decide +kernel
theorem eX1_tell_269 : dec cX1_tell 269 (.iconst 5) 1 270 := ⟨dX1_tell_269, rfl⟩
theorem dX1_tell_270 : decode cX1_tell 270 = .ok (.iadd, 1) := by decide +kernel
theorem eX1_tell_270 : dec cX1_tell 270 .iadd 1 271 := ⟨dX1_tell_270, rfl⟩
theorem dX1_tell_271 : decode cX1_tell 271 = .ok (.aload_n 0, 1) := by decide +kernel
theorem eX1_tell_271 : dec cX1_tell 271 (.aload_n 0) 1 272 := ⟨dX1_tell_271, rfl⟩
theorem dX1_tell_272 : decode cX1_tell 272 = .ok (.getfield 25, 3) := by decide +kernel
theorem eX1_tell_272 : dec cX1_tell 272 (.getfield 25) 3 275 := ⟨dX1_tell_272, rfl⟩
theorem dX1_tell_275 : decode cX1_tell 275 = .ok (.iload_n 2, 1) := by decide +kernel
theorem eX1_tell_275 : dec cX1_tell 275 (.iload_n 2) 1 276 := ⟨dX1_tell_275, rfl⟩
theorem dX1_tell_276 : decode cX1_tell 276 = .ok (.iconst 5, 1) := by decide +kernel
theorem eX1_tell_276 : dec cX1_tell 276 (.iconst 5) 1 277 := ⟨dX1_tell_276, rfl⟩
theorem dX1_tell_277 : decode cX1_tell 277 = .ok (.iadd, 1) := by decide +kernel
theorem eX1_tell_277 : dec cX1_tell 277 .iadd 1 278 := ⟨dX1_tell_277, rfl⟩
theorem dX1_tell_278 : decode cX1_tell 278 = .ok (.iaload, 1) := by decide +kernel
theorem eX1_tell_278 : dec cX1_tell 278 .iaload 1 279 := ⟨dX1_tell_278, rfl⟩
theorem dX1_tell_279 : decode cX1_tell 279 = .ok (.iload 4, 2) := by decide +kernel
theorem eX1_tell_279 : dec cX1_tell 279 (.iload 4) 2 281 := ⟨dX1_tell_279, rfl⟩
theorem dX1_tell_281 : decode cX1_tell 281 = .ok (.iadd, 1) := by decide +kernel
theorem eX1_tell_281 : dec cX1_tell 281 .iadd 1 282 := ⟨dX1_tell_281, rfl⟩
theorem dX1_tell_282 : decode cX1_tell 282 = .ok (.iastore, 1) := by decide +kernel
theorem eX1_tell_282 : dec cX1_tell 282 .iastore 1 283 := ⟨dX1_tell_282, rfl⟩
theorem dX1_tell_283 : decode cX1_tell 283 = .ok (.aload_n 0, 1) := by decide +kernel
theorem eX1_tell_283 : dec cX1_tell 283 (.aload_n 0) 1 284 := ⟨dX1_tell_283, rfl⟩
theorem dX1_tell_284 : decode cX1_tell 284 = .ok (.getfield 25, 3) := by decide +kernel
theorem eX1_tell_284 : dec cX1_tell 284 (.getfield 25) 3 287 := ⟨dX1_tell_284, rfl⟩
theorem dX1_tell_287 : decode cX1_tell 287 = .ok (.iload_n 2, 1) := by decide +kernel
theorem eX1_tell_287 : dec cX1_tell 287 (.iload_n 2) 1 288 := ⟨dX1_tell_287, rfl⟩
theorem dX1_tell_288 : decode cX1_tell 288 = .ok (.bipush 6, 2) := by decide +kernel
theorem eX1_tell_288 : dec cX1_tell 288 (.bipush 6) 2 290 := ⟨dX1_tell_288, rfl⟩
theorem dX1_tell_290 : decode cX1_tell 290 = .ok (.iadd, 1) := by decide +kernel
theorem eX1_tell_290 : dec cX1_tell 290 .iadd 1 291 := ⟨dX1_tell_290, rfl⟩
theorem dX1_tell_291 : decode cX1_tell 291 = .ok (.aload_n 0, 1) := by decide +kernel
theorem eX1_tell_291 : dec cX1_tell 291 (.aload_n 0) 1 292 := ⟨dX1_tell_291, rfl⟩
theorem dX1_tell_292 : decode cX1_tell 292 = .ok (.getfield 25, 3) := by decide +kernel
theorem eX1_tell_292 : dec cX1_tell 292 (.getfield 25) 3 295 := ⟨dX1_tell_292, rfl⟩
theorem dX1_tell_295 : decode cX1_tell 295 = .ok (.iload_n 2, 1) := by decide +kernel
theorem eX1_tell_295 : dec cX1_tell 295 (.iload_n 2) 1 296 := ⟨dX1_tell_295, rfl⟩
theorem dX1_tell_296 : decode cX1_tell 296 = .ok (.bipush 6, 2) := by decide +kernel
theorem eX1_tell_296 : dec cX1_tell 296 (.bipush 6) 2 298 := ⟨dX1_tell_296, rfl⟩
theorem dX1_tell_298 : decode cX1_tell 298 = .ok (.iadd, 1) := by decide +kernel
theorem eX1_tell_298 : dec cX1_tell 298 .iadd 1 299 := ⟨dX1_tell_298, rfl⟩
theorem dX1_tell_299 : decode cX1_tell 299 = .ok (.iaload, 1) := by decide +kernel
theorem eX1_tell_299 : dec cX1_tell 299 .iaload 1 300 := ⟨dX1_tell_299, rfl⟩
theorem dX1_tell_300 : decode cX1_tell 300 = .ok (.iload 5, 2) := by decide +kernel
theorem eX1_tell_300 : dec cX1_tell 300 (.iload 5) 2 302 := ⟨dX1_tell_300, rfl⟩
theorem dX1_tell_302 : decode cX1_tell 302 = .ok (.iadd, 1) := by decide +kernel
theorem eX1_tell_302 : dec cX1_tell 302 .iadd 1 303 := ⟨dX1_tell_302, rfl⟩
theorem dX1_tell_303 : decode cX1_tell 303 = .ok (.iastore, 1) := by decide +kernel
theorem eX1_tell_303 : dec cX1_tell 303 .iastore 1 304 := ⟨dX1_tell_303, rfl⟩
theorem dX1_tell_304 : decode cX1_tell 304 = .ok (.iinc 3 1, 3) := by decide +kernel
theorem eX1_tell_304 : dec cX1_tell 304 (.iinc 3 1) 3 307 := ⟨dX1_tell_304, rfl⟩
theorem dX1_tell_307 : decode cX1_tell 307 = .ok (.goto (-229), 3) := by decide +kernel
theorem eX1_tell_307 : dec cX1_tell 307 (.goto (-229)) 3 310 := ⟨dX1_tell_307, rfl⟩
theorem dX1_tell_310 : decode cX1_tell 310 = .ok (.return_, 1) := by decide +kernel
theorem eX1_tell_310 : dec cX1_tell 310 .return_ 1 311 := ⟨dX1_tell_310, rfl⟩
theorem dX1_part_0 : decode cX1_part 0 = .ok (.aload_n 0, 1) := by decide +kernel
theorem eX1_part_0 : dec cX1_part 0 (.aload_n 0) 1 1 := ⟨dX1_part_0, rfl⟩
theorem dX1_part_1 : decode cX1_part 1 = .ok (.iconst 0, 1) := by decide +kernel
theorem eX1_part_1 : dec cX1_part 1 (.iconst 0) 1 2 := ⟨dX1_part_1, rfl⟩
theorem dX1_part_2 : decode cX1_part 2 = .ok (.putfield 45, 3) := by decide +kernel
theorem eX1_part_2 : dec cX1_part 2 (.putfield 45) 3 5 := ⟨dX1_part_2, rfl⟩
theorem dX1_part_5 : decode cX1_part 5 = .ok (.iload_n 1, 1) := by decide +kernel
theorem eX1_part_5 : dec cX1_part 5 (.iload_n 1) 1 6 := ⟨dX1_part_5, rfl⟩
theorem dX1_part_6 : decode cX1_part 6 = .ok (.ifCond .lt 21, 3) := by decide +kernel
theorem eX1_part_6 : dec cX1_part 6 (.ifCond .lt 21) 3 9 := ⟨dX1_part_6, rfl⟩
theorem dX1_part_9 : decode cX1_part 9 = .ok (.iload_n 1, 1) := by decide +kernel
theorem eX1_part_9 : dec cX1_part 9 (.iload_n 1) 1 10 := ⟨dX1_part_9, rfl⟩
theorem dX1_part_10 : decode cX1_part 10 = .ok (.aload_n 0, 1) := by decide +kernel
theorem eX1_part_10 : dec cX1_part 10 (.aload_n 0) 1 11 := ⟨dX1_part_10, rfl⟩
theorem dX1_part_11 : decode cX1_part 11 = .ok (.getfield 75, 3) := by decide +kernel
theorem eX1_part_11 : dec cX1_part 11 (.getfield 75) 3 14 := ⟨dX1_part_11, rfl⟩
theorem dX1_part_14 : decode cX1_part 14 = .ok (.if_icmp .ge 13, 3) := by decide +kernel
theorem eX1_part_14 : dec cX1_part 14 (.if_icmp .ge 13) 3 17 := ⟨dX1_part_14, rfl⟩
theorem dX1_part_17 : decode cX1_part 17 = .ok (.iload_n 2, 1) := by decide +kernel
theorem eX1_part_17 : dec cX1_part 17 (.iload_n 2) 1 18 := ⟨dX1_part_17, rfl⟩
theorem dX1_part_18 : decode cX1_part 18 = .ok (.ifCond .lt 9, 3) := by decide +kernel
theorem eX1_part_18 : dec cX1_part 18 (.ifCond .lt 9) 3 21 := ⟨dX1_part_18, rfl⟩
theorem dX1_part_21 : decode cX1_part 21 = .ok (.iload_n 2, 1) := by decide +kernel
theorem eX1_part_21 : dec cX1_part 21 (.iload_n 2) 1 22 := ⟨dX1_part_21, rfl⟩
theorem dX1_part_22 : decode cX1_part 22 = .ok (.bipush 6, 2) := by decide +kernel
theorem eX1_part_22 : dec cX1_part 22 (.bipush 6) 2 24 := ⟨dX1_part_22, rfl⟩
theorem dX1_part_24 : decode cX1_part 24 = .ok (.if_icmp .le 7, 3) := by decide +kernel
theorem eX1_part_24 : dec cX1_part 24 (.if_icmp .le 7) 3 27 := ⟨dX1_part_24, rfl⟩
theorem dX1_part_27 : decode cX1_part 27 = .ok (.iconst (-1), 1) := by decide +kernel
theorem eX1_part_27 : dec cX1_part 27 (.iconst (-1)) 1 28 := ⟨dX1_part_27, rfl⟩
theorem dX1_part_28 : decode cX1_part 28 = .ok (.goto 14, 3) := by decide +kernel
theorem eX1_part_28 : dec cX1_part 28 (.goto 14) 3 31 := ⟨dX1_part_28, rfl⟩
theorem dX1_part_31 : decode cX1_part 31 = .ok (.aload_n 0, 1) := by decide +kernel
theorem eX1_part_31 : dec cX1_part 31 (.aload_n 0) 1 32 := ⟨dX1_part_31, rfl⟩
theorem dX1_part_32 : decode cX1_part 32 = .ok (.getfield 25, 3) := by decide +kernel
theorem eX1_part_32 : dec cX1_part 32 (.getfield 25) 3 35 := ⟨dX1_part_32, rfl⟩
theorem dX1_part_35 : decode cX1_part 35 = .ok (.bipush 7, 2) := by decide +kernel
theorem eX1_part_35 : dec cX1_part 35 (.bipush 7) 2 37 := ⟨dX1_part_35, rfl⟩
theorem dX1_part_37 : decode cX1_part 37 = .ok (.iload_n 1, 1) := by decide +kernel
theorem eX1_part_37 : dec cX1_part 37 (.iload_n 1) 1 38 := ⟨dX1_part_37, rfl⟩
theorem dX1_part_38 : decode cX1_part 38 = .ok (.imul, 1) := by decide +kernel
theorem eX1_part_38 : dec cX1_part 38 .imul 1 39 := ⟨dX1_part_38, rfl⟩
theorem dX1_part_39 : decode cX1_part 39 = .ok (.iload_n 2, 1) := by decide +kernel
theorem eX1_part_39 : dec cX1_part 39 (.iload_n 2) 1 40 := ⟨dX1_part_39, rfl⟩
theorem dX1_part_40 : decode cX1_part 40 = .ok (.iadd, 1) := by decide +kernel
theorem eX1_part_40 : dec cX1_part 40 .iadd 1 41 := ⟨dX1_part_40, rfl⟩
theorem dX1_part_41 : decode cX1_part 41 = .ok (.iaload, 1) := by decide +kernel
theorem eX1_part_41 : dec cX1_part 41 .iaload 1 42 := ⟨dX1_part_41, rfl⟩
theorem dX1_part_42 : decode cX1_part 42 = .ok (.ireturn, 1) := by decide +kernel
theorem eX1_part_42 : dec cX1_part 42 .ireturn 1 43 := ⟨dX1_part_42, rfl⟩
theorem dX1_rowOf_0 : decode cX1_rowOf 0 = .ok (.iload_n 2, 1) := by decide +kernel
theorem eX1_rowOf_0 : dec cX1_rowOf 0 (.iload_n 2) 1 1 := ⟨dX1_rowOf_0, rfl⟩
theorem dX1_rowOf_1 : decode cX1_rowOf 1 = .ok (.iload_n 3, 1) := by decide +kernel
theorem eX1_rowOf_1 : dec cX1_rowOf 1 (.iload_n 3) 1 2 := ⟨dX1_rowOf_1, rfl⟩
theorem dX1_rowOf_2 : decode cX1_rowOf 2 = .ok (.iload_n 1, 1) := by decide +kernel
theorem eX1_rowOf_2 : dec cX1_rowOf 2 (.iload_n 1) 1 3 := ⟨dX1_rowOf_2, rfl⟩
theorem dX1_rowOf_3 : decode cX1_rowOf 3 = .ok (.imul, 1) := by decide +kernel
theorem eX1_rowOf_3 : dec cX1_rowOf 3 .imul 1 4 := ⟨dX1_rowOf_3, rfl⟩
theorem dX1_rowOf_4 : decode cX1_rowOf 4 = .ok (.iconst 5, 1) := by decide +kernel
theorem eX1_rowOf_4 : dec cX1_rowOf 4 (.iconst 5) 1 5 := ⟨dX1_rowOf_4, rfl⟩
theorem dX1_rowOf_5 : decode cX1_rowOf 5 = .ok (.ishr, 1) := by decide +kernel
theorem eX1_rowOf_5 : dec cX1_rowOf 5 .ishr 1 6 := ⟨dX1_rowOf_5, rfl⟩
theorem dX1_rowOf_6 : decode cX1_rowOf 6 = .ok (.iadd, 1) := by decide +kernel
theorem eX1_rowOf_6 : dec cX1_rowOf 6 .iadd 1 7 := ⟨dX1_rowOf_6, rfl⟩
theorem dX1_rowOf_7 : decode cX1_rowOf 7 = .ok (.aload_n 0, 1) := by decide +kernel
theorem eX1_rowOf_7 : dec cX1_rowOf 7 (.aload_n 0) 1 8 := ⟨dX1_rowOf_7, rfl⟩
theorem dX1_rowOf_8 : decode cX1_rowOf 8 = .ok (.getfield 39, 3) := by decide +kernel
theorem eX1_rowOf_8 : dec cX1_rowOf 8 (.getfield 39) 3 11 := ⟨dX1_rowOf_8, rfl⟩
theorem dX1_rowOf_11 : decode cX1_rowOf 11 = .ok (.irem, 1) := by decide +kernel
theorem eX1_rowOf_11 : dec cX1_rowOf 11 .irem 1 12 := ⟨dX1_rowOf_11, rfl⟩
theorem dX1_rowOf_12 : decode cX1_rowOf 12 = .ok (.istore 4, 2) := by decide +kernel
theorem eX1_rowOf_12 : dec cX1_rowOf 12 (.istore 4) 2 14 := ⟨dX1_rowOf_12, rfl⟩
theorem dX1_rowOf_14 : decode cX1_rowOf 14 = .ok (.iload 4, 2) := by decide +kernel
theorem eX1_rowOf_14 : dec cX1_rowOf 14 (.iload 4) 2 16 := ⟨dX1_rowOf_14, rfl⟩
theorem dX1_rowOf_16 : decode cX1_rowOf 16 = .ok (.ifCond .ge 13, 3) := by decide +kernel
theorem eX1_rowOf_16 : dec cX1_rowOf 16 (.ifCond .ge 13) 3 19 := ⟨dX1_rowOf_16, rfl⟩
theorem dX1_rowOf_19 : decode cX1_rowOf 19 = .ok (.iload 4, 2) := by decide +kernel
theorem eX1_rowOf_19 : dec cX1_rowOf 19 (.iload 4) 2 21 := ⟨dX1_rowOf_19, rfl⟩
theorem dX1_rowOf_21 : decode cX1_rowOf 21 = .ok (.aload_n 0, 1) := by decide +kernel
theorem eX1_rowOf_21 : dec cX1_rowOf 21 (.aload_n 0) 1 22 := ⟨dX1_rowOf_21, rfl⟩
theorem dX1_rowOf_22 : decode cX1_rowOf 22 = .ok (.getfield 39, 3) := by decide +kernel
theorem eX1_rowOf_22 : dec cX1_rowOf 22 (.getfield 39) 3 25 := ⟨dX1_rowOf_22, rfl⟩
theorem dX1_rowOf_25 : decode cX1_rowOf 25 = .ok (.iadd, 1) := by decide +kernel
theorem eX1_rowOf_25 : dec cX1_rowOf 25 .iadd 1 26 := ⟨dX1_rowOf_25, rfl⟩
theorem dX1_rowOf_26 : decode cX1_rowOf 26 = .ok (.goto 5, 3) := by decide +kernel
theorem eX1_rowOf_26 : dec cX1_rowOf 26 (.goto 5) 3 29 := ⟨dX1_rowOf_26, rfl⟩
theorem dX1_rowOf_29 : decode cX1_rowOf 29 = .ok (.iload 4, 2) := by decide +kernel
theorem eX1_rowOf_29 : dec cX1_rowOf 29 (.iload 4) 2 31 := ⟨dX1_rowOf_29, rfl⟩
theorem dX1_rowOf_31 : decode cX1_rowOf 31 = .ok (.ireturn, 1) := by decide +kernel
theorem eX1_rowOf_31 : dec cX1_rowOf 31 .ireturn 1 32 := ⟨dX1_rowOf_31, rfl⟩
set_option maxRecDepth 20000 in
theorem ggX1_skew_X1_darken : GoodIn wsX1_skew wsX1_darken := goodIn_r _ [11, 4, 12, 6, 13, 14, 15, 10, 16, 3, 17, 18, 19, 20, 21, 22, 23, 24, 29, 30, 31, 32, 33, 34, 35, 36, 37, 38, 39, 40, 41, 42, 43] (by decide +kernel) (by decide +kernel)
set_option maxRecDepth 20000 in
theorem gX1_skew_X1_darken : GoodIn wsX1_skew (wsV RX1 68 RX1 yX1_darken wsX1_darken) := goodIn_app (goodIn_of _ (by decide +kernel)) ggX1_skew_X1_darken
set_option maxRecDepth 20000 in
theorem ggX1_skew_X1_rowOf : GoodIn wsX1_skew wsX1_rowOf := goodIn_r _ [28, 2, 29, 30, 31, 32, 33, 34, 35, 36, 37, 38, 39, 40, 41, 42, 43] (by decide +kernel) (by decide +kernel)
set_option maxRecDepth 20000 in
theorem gX1_skew_X1_rowOf : GoodIn wsX1_skew (wsV RX1 85 RX1 yX1_rowOf wsX1_rowOf) := goodIn_app (goodIn_of _ (by decide +kernel)) ggX1_skew_X1_rowOf
theorem dX1_skew_0 : decode cX1_skew 0 = .ok (.aload_n 0, 1) := by decide +kernel
theorem eX1_skew_0 : dec cX1_skew 0 (.aload_n 0) 1 1 := ⟨dX1_skew_0, rfl⟩
theorem dX1_skew_1 : decode cX1_skew 1 = .ok (.iconst 0, 1) := by decide +kernel
theorem eX1_skew_1 : dec cX1_skew 1 (.iconst 0) 1 2 := ⟨dX1_skew_1, rfl⟩
theorem dX1_skew_2 : decode cX1_skew 2 = .ok (.putfield 45, 3) := by decide +kernel
theorem eX1_skew_2 : dec cX1_skew 2 (.putfield 45) 3 5 := ⟨dX1_skew_2, rfl⟩
theorem dX1_skew_5 : decode cX1_skew 5 = .ok (.aload_n 0, 1) := by decide +kernel
theorem eX1_skew_5 : dec cX1_skew 5 (.aload_n 0) 1 6 := ⟨dX1_skew_5, rfl⟩
theorem dX1_skew_6 : decode cX1_skew 6 = .ok (.invokevirtual 68, 3) := by decide +kernel
theorem eX1_skew_6 : dec cX1_skew 6 (.invokevirtual 68) 3 9 := ⟨dX1_skew_6, rfl⟩
theorem dX1_skew_9 : decode cX1_skew 9 = .ok (.iconst 0, 1) := by decide +kernel
theorem eX1_skew_9 : dec cX1_skew 9 (.iconst 0) 1 10 := ⟨dX1_skew_9, rfl⟩
theorem dX1_skew_10 : decode cX1_skew 10 = .ok (.istore_n 1, 1) := by decide +kernel
theorem eX1_skew_10 : dec cX1_skew 10 (.istore_n 1) 1 11 := ⟨dX1_skew_10, rfl⟩
theorem dX1_skew_11 : decode cX1_skew 11 = .ok (.iconst (-1), 1) := by decide +kernel
theorem eX1_skew_11 : dec cX1_skew 11 (.iconst (-1)) 1 12 := ⟨dX1_skew_11, rfl⟩
theorem dX1_skew_12 : decode cX1_skew 12 = .ok (.istore_n 2, 1) := by decide +kernel
theorem eX1_skew_12 : dec cX1_skew 12 (.istore_n 2) 1 13 := ⟨dX1_skew_12, rfl⟩
theorem dX1_skew_13 : decode cX1_skew 13 = .ok (.iconst 0, 1) := by decide +kernel
theorem eX1_skew_13 : dec cX1_skew 13 (.iconst 0) 1 14 := ⟨dX1_skew_13, rfl⟩
theorem dX1_skew_14 : decode cX1_skew 14 = .ok (.istore_n 3, 1) := by decide +kernel
theorem eX1_skew_14 : dec cX1_skew 14 (.istore_n 3) 1 15 := ⟨dX1_skew_14, rfl⟩
theorem dX1_skew_15 : decode cX1_skew 15 = .ok (.iload_n 3, 1) := by decide +kernel
theorem eX1_skew_15 : dec cX1_skew 15 (.iload_n 3) 1 16 := ⟨dX1_skew_15, rfl⟩
theorem dX1_skew_16 : decode cX1_skew 16 = .ok (.bipush 17, 2) := by decide +kernel
theorem eX1_skew_16 : dec cX1_skew 16 (.bipush 17) 2 18 := ⟨dX1_skew_16, rfl⟩
theorem dX1_skew_18 : decode cX1_skew 18 = .ok (.if_icmp .ge 174, 3) := by decide +kernel
theorem eX1_skew_18 : dec cX1_skew 18 (.if_icmp .ge 174) 3 21 := ⟨dX1_skew_18, rfl⟩
theorem dX1_skew_21 : decode cX1_skew 21 = .ok (.iload_n 3, 1) := by decide +kernel
theorem eX1_skew_21 : dec cX1_skew 21 (.iload_n 3) 1 22 := ⟨dX1_skew_21, rfl⟩
theorem dX1_skew_22 : decode cX1_skew 22 = .ok (.iconst 2, 1) := by decide +kernel
theorem eX1_skew_22 : dec cX1_skew 22 (.iconst 2) 1 23 := ⟨dX1_skew_22, rfl⟩
theorem dX1_skew_23 : decode cX1_skew 23 = .ok (.irem, 1) := by decide +kernel
theorem eX1_skew_23 : dec cX1_skew 23 .irem 1 24 := ⟨dX1_skew_23, rfl⟩
theorem dX1_skew_24 : decode cX1_skew 24 = .ok (.ifCond .ne 9, 3) := by decide +kernel
theorem eX1_skew_24 : dec cX1_skew 24 (.ifCond .ne 9) 3 27 := ⟨dX1_skew_24, rfl⟩
theorem dX1_skew_27 : decode cX1_skew 27 = .ok (.iload_n 3, 1) := by decide +kernel
theorem eX1_skew_27 : dec cX1_skew 27 (.iload_n 3) 1 28 := ⟨dX1_skew_27, rfl⟩
theorem dX1_skew_28 : decode cX1_skew 28 = .ok (.iconst 2, 1) := by decide +kernel
theorem eX1_skew_28 : dec cX1_skew 28 (.iconst 2) 1 29 := ⟨dX1_skew_28, rfl⟩
theorem dX1_skew_29 : decode cX1_skew 29 = .ok (.idiv, 1) := by decide +kernel
theorem eX1_skew_29 : dec cX1_skew 29 .idiv 1 30 := ⟨dX1_skew_29, rfl⟩
theorem dX1_skew_30 : decode cX1_skew 30 = .ok (.goto 8, 3) := by decide +kernel
theorem eX1_skew_30 : dec cX1_skew 30 (.goto 8) 3 33 := ⟨dX1_skew_30, rfl⟩
theorem dX1_skew_33 : decode cX1_skew 33 = .ok (.iconst (-1), 1) := by decide +kernel
theorem eX1_skew_33 : dec cX1_skew 33 (.iconst (-1)) 1 34 := ⟨dX1_skew_33, rfl⟩
theorem dX1_skew_34 : decode cX1_skew 34 = .ok (.iload_n 3, 1) := by decide +kernel
theorem eX1_skew_34 : dec cX1_skew 34 (.iload_n 3) 1 35 := ⟨dX1_skew_34, rfl⟩
theorem dX1_skew_35 : decode cX1_skew 35 = .ok (.iconst 2, 1) := by decide +kernel
theorem eX1_skew_35 : dec cX1_skew 35 (.iconst 2) 1 36 := ⟨dX1_skew_35, rfl⟩
theorem dX1_skew_36 : decode cX1_skew 36 = .ok (.idiv, 1) := by decide +kernel
theorem eX1_skew_36 : dec cX1_skew 36 .idiv 1 37 := ⟨dX1_skew_36, rfl⟩
theorem dX1_skew_37 : decode cX1_skew 37 = .ok (.isub, 1) := by decide +kernel
theorem eX1_skew_37 : dec cX1_skew 37 .isub 1 38 := ⟨dX1_skew_37, rfl⟩
theorem dX1_skew_38 : decode cX1_skew 38 = .ok (.istore 4, 2) := by decide +kernel
theorem eX1_skew_38 : dec cX1_skew 38 (.istore 4) 2 40 := ⟨dX1_skew_38, rfl⟩
theorem dX1_skew_40 : decode cX1_skew 40 = .ok (.iconst 0, 1) := by decide +kernel
theorem eX1_skew_40 : dec cX1_skew 40 (.iconst 0) 1 41 := ⟨dX1_skew_40, rfl⟩
theorem dX1_skew_41 : decode cX1_skew 41 = .ok (.istore 5, 2) := by decide +kernel
theorem eX1_skew_41 : dec cX1_skew 41 (.istore 5) 2 43 := ⟨dX1_skew_41, rfl⟩
theorem dX1_skew_43 : decode cX1_skew 43 = .ok (.iload 5, 2) := by decide +kernel
theorem eX1_skew_43 : dec cX1_skew 43 (.iload 5) 2 45 := ⟨dX1_skew_43, rfl⟩
theorem dX1_skew_45 : decode cX1_skew 45 = .ok (.aload_n 0, 1) := by decide +kernel
theorem eX1_skew_45 : dec cX1_skew 45 (.aload_n 0) 1 46 := ⟨dX1_skew_45, rfl⟩
theorem dX1_skew_46 : decode cX1_skew 46 = .ok (.getfield 39, 3) := by decide +kernel
theorem eX1_skew_46 : dec cX1_skew 46 (.getfield 39) 3 49 := ⟨dX1_skew_46, rfl⟩
theorem dX1_skew_49 : decode cX1_skew 49 = .ok (.if_icmp .ge 17, 3) := by decide +kernel
theorem eX1_skew_49 : dec cX1_skew 49 (.if_icmp .ge 17) 3 52 := ⟨dX1_skew_49, rfl⟩
theorem dX1_skew_52 : decode cX1_skew 52 = .ok (.aload_n 0, 1) := by decide +kernel
theorem eX1_skew_52 : dec cX1_skew 52 (.aload_n 0) 1 53 := ⟨dX1_skew_52, rfl⟩
theorem dX1_skew_53 : decode cX1_skew 53 = .ok (.getfield 16, 3) := by decide +kernel
theorem eX1_skew_53 : dec cX1_skew 53 (.getfield 16) 3 56 := ⟨dX1_skew_53, rfl⟩
theorem dX1_skew_56 : decode cX1_skew 56 = .ok (.iload 5, 2) := by decide +kernel
theorem eX1_skew_56 : dec cX1_skew 56 (.iload 5) 2 58 := ⟨dX1_skew_56, rfl⟩
theorem dX1_skew_58 : decode cX1_skew 58 = .ok (.iconst 0, 1) := by decide +kernel
theorem eX1_skew_58 : dec cX1_skew 58 (.iconst 0) 1 59 := ⟨dX1_skew_58, rfl⟩
theorem dX1_skew_59 : decode cX1_skew 59 = .ok (.iastore, 1) := by decide +kernel
theorem eX1_skew_59 : dec cX1_skew 59 .iastore 1 60 := ⟨dX1_skew_59, rfl⟩
theorem dX1_skew_60 : decode cX1_skew 60 = .ok (.iinc 5 1, 3) := by decide +kernel
theorem eX1_skew_60 : dec cX1_skew 60 (.iinc 5 1) 3 63 := ⟨dX1_skew_60, rfl⟩
theorem dX1_skew_63 : decode cX1_skew 63 = .ok (.goto (-20), 3) := by decide +kernel
theorem eX1_skew_63 : dec cX1_skew 63 (.goto (-20)) 3 66 := ⟨dX1_skew_63, rfl⟩
theorem dX1_skew_66 : decode cX1_skew 66 = .ok (.iconst 0, 1) := by decide +kernel
theorem eX1_skew_66 : dec cX1_skew 66 (.iconst 0) 1 67 := ⟨dX1_skew_66, rfl⟩
theorem dX1_skew_67 : decode cX1_skew 67 = .ok (.istore 5, 2) := by decide +kernel
theorem eX1_skew_67 : dec cX1_skew 67 (.istore 5) 2 69 := ⟨dX1_skew_67, rfl⟩
theorem dX1_skew_69 : decode cX1_skew 69 = .ok (.iload 5, 2) := by decide +kernel
theorem eX1_skew_69 : dec cX1_skew 69 (.iload 5) 2 71 := ⟨dX1_skew_69, rfl⟩
theorem dX1_skew_71 : decode cX1_skew 71 = .ok (.aload_n 0, 1) := by decide +kernel
theorem eX1_skew_71 : dec cX1_skew 71 (.aload_n 0) 1 72 := ⟨dX1_skew_71, rfl⟩
theorem dX1_skew_72 : decode cX1_skew 72 = .ok (.getfield 42, 3) := by decide +kernel
theorem eX1_skew_72 : dec cX1_skew 72 (.getfield 42) 3 75 := ⟨dX1_skew_72, rfl⟩
theorem dX1_skew_75 : decode cX1_skew 75 = .ok (.if_icmp .ge 44, 3) := by decide +kernel
theorem eX1_skew_75 : dec cX1_skew 75 (.if_icmp .ge 44) 3 78 := ⟨dX1_skew_75, rfl⟩
theorem dX1_skew_78 : decode cX1_skew 78 = .ok (.aload_n 0, 1) := by decide +kernel
theorem eX1_skew_78 : dec cX1_skew 78 (.aload_n 0) 1 79 := ⟨dX1_skew_78, rfl⟩
theorem dX1_skew_79 : decode cX1_skew 79 = .ok (.getfield 16, 3) := by decide +kernel
theorem eX1_skew_79 : dec cX1_skew 79 (.getfield 16) 3 82 := ⟨dX1_skew_79, rfl⟩
theorem dX1_skew_82 : decode cX1_skew 82 = .ok (.aload_n 0, 1) := by decide +kernel
theorem eX1_skew_82 : dec cX1_skew 82 (.aload_n 0) 1 83 := ⟨dX1_skew_82, rfl⟩
theorem dX1_skew_83 : decode cX1_skew 83 = .ok (.iload 5, 2) := by decide +kernel
theorem eX1_skew_83 : dec cX1_skew 83 (.iload 5) 2 85 := ⟨dX1_skew_83, rfl⟩
theorem dX1_skew_85 : decode cX1_skew 85 = .ok (.aload_n 0, 1) := by decide +kernel
theorem eX1_skew_85 : dec cX1_skew 85 (.aload_n 0) 1 86 := ⟨dX1_skew_85, rfl⟩
theorem dX1_skew_86 : decode cX1_skew 86 = .ok (.getfield 35, 3) := by decide +kernel
theorem eX1_skew_86 : dec cX1_skew 86 (.getfield 35) 3 89 := ⟨dX1_skew_86, rfl⟩
theorem dX1_skew_89 : decode cX1_skew 89 = .ok (.irem, 1) := by decide +kernel
theorem eX1_skew_89 : dec cX1_skew 89 .irem 1 90 := ⟨dX1_skew_89, rfl⟩
theorem dX1_skew_90 : decode cX1_skew 90 = .ok (.iload 5, 2) := by decide +kernel
theorem eX1_skew_90 : dec cX1_skew 90 (.iload 5) 2 92 := ⟨dX1_skew_90, rfl⟩
theorem dX1_skew_92 : decode cX1_skew 92 = .ok (.aload_n 0, 1) := by decide +kernel
theorem eX1_skew_92 : dec cX1_skew 92 (.aload_n 0) 1 93 := ⟨dX1_skew_92, rfl⟩
theorem dX1_skew_93 : decode cX1_skew 93 = .ok (.getfield 35, 3) := by decide +kernel
theorem eX1_skew_93 : dec cX1_skew 93 (.getfield 35) 3 96 := ⟨dX1_skew_93, rfl⟩
theorem dX1_skew_96 : decode cX1_skew 96 = .ok (.idiv, 1) := by decide +kernel
theorem eX1_skew_96 : dec cX1_skew 96 .idiv 1 97 := ⟨dX1_skew_96, rfl⟩
theorem dX1_skew_97 : decode cX1_skew 97 = .ok (.iload 4, 2) := by decide +kernel
theorem eX1_skew_97 : dec cX1_skew 97 (.iload 4) 2 99 := ⟨dX1_skew_97, rfl⟩
theorem dX1_skew_99 : decode cX1_skew 99 = .ok (.invokevirtual 85, 3) := by decide +kernel
theorem eX1_skew_99 : dec cX1_skew 99 (.invokevirtual 85) 3 102 := ⟨dX1_skew_99, rfl⟩
theorem dX1_skew_102 : decode cX1_skew 102 = .ok (.dup2, 1) := by decide +kernel
theorem eX1_skew_102 : dec cX1_skew 102 .dup2 1 103 := ⟨dX1_skew_102, rfl⟩
theorem dX1_skew_103 : decode cX1_skew 103 = .ok (.iaload, 1) := by decide +kernel
theorem eX1_skew_103 : dec cX1_skew 103 .iaload 1 104 := ⟨dX1_skew_103, rfl⟩
theorem dX1_skew_104 : decode cX1_skew 104 = .ok (.aload_n 0, 1) := by decide +kernel
theorem eX1_skew_104 : dec cX1_skew 104 (.aload_n 0) 1 105 := ⟨dX1_skew_104, rfl⟩
theorem dX1_skew_105 : decode cX1_skew 105 = .ok (.getfield 13, 3) := by decide +kernel
theorem eX1_skew_105 : dec cX1_skew 105 (.getfield 13) 3 108 := ⟨dX1_skew_105, rfl⟩
theorem dX1_skew_108 : decode cX1_skew 108 = .ok (.iload 5, 2) := by decide +kernel
theorem eX1_skew_108 : dec cX1_skew 108 (.iload 5) 2 110 := ⟨dX1_skew_108, rfl⟩
theorem dX1_skew_110 : decode cX1_skew 110 = .ok (.iaload, 1) := by decide +kernel
theorem eX1_skew_110 : dec cX1_skew 110 .iaload 1 111 := ⟨dX1_skew_110, rfl⟩
theorem dX1_skew_111 : decode cX1_skew 111 = .ok (.iadd, 1) := by decide +kernel
theorem eX1_skew_111 : dec cX1_skew 111 .iadd 1 112 := ⟨dX1_skew_111, rfl⟩
theorem dX1_skew_112 : decode cX1_skew 112 = .ok (.iastore, 1) := by decide +kernel
theorem eX1_skew_112 : dec cX1_skew 112 .iastore 1 113 := ⟨dX1_skew_112, rfl⟩
theorem dX1_skew_113 : decode cX1_skew 113 = .ok (.iinc 5 1, 3) := by decide +kernel
theorem eX1_skew_113 : dec cX1_skew 113 (.iinc 5 1) 3 116 := ⟨dX1_skew_113, rfl⟩
theorem dX1_skew_116 : decode cX1_skew 116 = .ok (.goto (-47), 3) := by decide +kernel
theorem eX1_skew_116 : dec cX1_skew 116 (.goto (-47)) 3 119 := ⟨dX1_skew_116, rfl⟩
theorem dX1_skew_119 : decode cX1_skew 119 = .ok (.iconst 0, 1) := by decide +kernel
theorem eX1_skew_119 : dec cX1_skew 119 (.iconst 0) 1 120 := ⟨dX1_skew_119, rfl⟩
theorem dX1_skew_120 : decode cX1_skew 120 = .ok (.istore 5, 2) := by decide +kernel
theorem eX1_skew_120 : dec cX1_skew 120 (.istore 5) 2 122 := ⟨dX1_skew_120, rfl⟩
theorem dX1_skew_122 : decode cX1_skew 122 = .ok (.iconst 0, 1) := by decide +kernel
theorem eX1_skew_122 : dec cX1_skew 122 (.iconst 0) 1 123 := ⟨dX1_skew_122, rfl⟩
theorem dX1_skew_123 : decode cX1_skew 123 = .ok (.istore 6, 2) := by decide +kernel
theorem eX1_skew_123 : dec cX1_skew 123 (.istore 6) 2 125 := ⟨dX1_skew_123, rfl⟩
theorem dX1_skew_125 : decode cX1_skew 125 = .ok (.iload 6, 2) := by decide +kernel
theorem eX1_skew_125 : dec cX1_skew 125 (.iload 6) 2 127 := ⟨dX1_skew_125, rfl⟩
theorem dX1_skew_127 : decode cX1_skew 127 = .ok (.aload_n 0, 1) := by decide +kernel
theorem eX1_skew_127 : dec cX1_skew 127 (.aload_n 0) 1 128 := ⟨dX1_skew_127, rfl⟩
theorem dX1_skew_128 : decode cX1_skew 128 = .ok (.getfield 39, 3) := by decide +kernel
theorem eX1_skew_128 : dec cX1_skew 128 (.getfield 39) 3 131 := ⟨dX1_skew_128, rfl⟩
theorem dX1_skew_131 : decode cX1_skew 131 = .ok (.if_icmp .ge 29, 3) := by decide +kernel
theorem eX1_skew_131 : dec cX1_skew 131 (.if_icmp .ge 29) 3 134 := ⟨dX1_skew_131, rfl⟩
theorem dX1_skew_134 : decode cX1_skew 134 = .ok (.iload 5, 2) := by decide +kernel
theorem eX1_skew_134 : dec cX1_skew 134 (.iload 5) 2 136 := ⟨dX1_skew_134, rfl⟩
theorem dX1_skew_136 : decode cX1_skew 136 = .ok (.aload_n 0, 1) := by decide +kernel
theorem eX1_skew_136 : dec cX1_skew 136 (.aload_n 0) 1 137 := ⟨dX1_skew_136, rfl⟩
theorem dX1_skew_137 : decode cX1_skew 137 = .ok (.getfield 16, 3) := by decide +kernel
theorem eX1_skew_137 : dec cX1_skew 137 (.getfield 16) 3 140 := ⟨dX1_skew_137, rfl⟩
theorem dX1_skew_140 : decode cX1_skew 140 = .ok (.iload 6, 2) := by decide +kernel
theorem eX1_skew_140 : dec cX1_skew 140 (.iload 6) 2 142 := ⟨dX1_skew_140, rfl⟩
theorem dX1_skew_142 : decode cX1_skew 142 = .ok (.iaload, 1) := by decide +kernel
theorem eX1_skew_142 : dec cX1_skew 142 .iaload 1 143 := ⟨dX1_skew_142, rfl⟩
theorem dX1_skew_143 : decode cX1_skew 143 = .ok (.aload_n 0, 1) := by decide +kernel
theorem eX1_skew_143 : dec cX1_skew 143 (.aload_n 0) 1 144 := ⟨dX1_skew_143, rfl⟩
theorem dX1_skew_144 : decode cX1_skew 144 = .ok (.getfield 16, 3) := by decide +kernel
theorem eX1_skew_144 : dec cX1_skew 144 (.getfield 16) 3 147 := ⟨dX1_skew_144, rfl⟩
theorem dX1_skew_147 : decode cX1_skew 147 = .ok (.iload 6, 2) := by decide +kernel
theorem eX1_skew_147 : dec cX1_skew 147 (.iload 6) 2 149 := ⟨dX1_skew_147, rfl⟩
theorem dX1_skew_149 : decode cX1_skew 149 = .ok (.iaload, 1) := by decide +kernel
theorem eX1_skew_149 : dec cX1_skew 149 .iaload 1 150 := ⟨dX1_skew_149, rfl⟩
theorem dX1_skew_150 : decode cX1_skew 150 = .ok (.imul, 1) := by decide +kernel
theorem eX1_skew_150 : dec cX1_skew 150 .imul 1 151 := ⟨dX1_skew_150, rfl⟩
theorem dX1_skew_151 : decode cX1_skew 151 = .ok (.iadd, 1) := by decide +kernel
theorem eX1_skew_151 : dec cX1_skew 151 .iadd 1 152 := ⟨dX1_skew_151, rfl⟩
theorem dX1_skew_152 : decode cX1_skew 152 = .ok (.istore 5, 2) := by decide +kernel
theorem eX1_skew_152 : dec cX1_skew 152 (.istore 5) 2 154 := ⟨dX1_skew_152, rfl⟩
theorem dX1_skew_154 : decode cX1_skew 154 = .ok (.iinc 6 1, 3) := by decide +kernel
theorem eX1_skew_154 : dec cX1_skew 154 (.iinc 6 1) 3 157 := ⟨dX1_skew_154, rfl⟩
theorem dX1_skew_157 : decode cX1_skew 157 = .ok (.goto (-32), 3) := by decide +kernel
theorem eX1_skew_157 : dec cX1_skew 157 (.goto (-32)) 3 160 := ⟨dX1_skew_157, rfl⟩
theorem dX1_skew_160 : decode cX1_skew 160 = .ok (.iload 5, 2) := by decide +kernel
theorem eX1_skew_160 : dec cX1_skew 160 (.iload 5) 2 162 := ⟨dX1_skew_160, rfl⟩
theorem dX1_skew_162 : decode cX1_skew 162 = .ok (.iload_n 2, 1) := by decide +kernel
theorem eX1_skew_162 : dec cX1_skew 162 (.iload_n 2) 1 163 := ⟨dX1_skew_162, rfl⟩
theorem dX1_skew_163 : decode cX1_skew 163 = .ok (.if_icmp .le 8, 3) := by decide +kernel
theorem eX1_skew_163 : dec cX1_skew 163 (.if_icmp .le 8) 3 166 := ⟨dX1_skew_163, rfl⟩
theorem dX1_skew_166 : decode cX1_skew 166 = .ok (.iload 4, 2) := by decide +kernel
theorem eX1_skew_166 : dec cX1_skew 166 (.iload 4) 2 168 := ⟨dX1_skew_166, rfl⟩
theorem dX1_skew_168 : decode cX1_skew 168 = .ok (.goto 4, 3) := by decide +kernel
theorem eX1_skew_168 : dec cX1_skew 168 (.goto 4) 3 171 := ⟨dX1_skew_168, rfl⟩
theorem dX1_skew_171 : decode cX1_skew 171 = .ok (.iload_n 1, 1) := by decide +kernel
theorem eX1_skew_171 : dec cX1_skew 171 (.iload_n 1) 1 172 := ⟨dX1_skew_171, rfl⟩
theorem dX1_skew_172 : decode cX1_skew 172 = .ok (.istore_n 1, 1) := by decide +kernel
theorem eX1_skew_172 : dec cX1_skew 172 (.istore_n 1) 1 173 := ⟨dX1_skew_172, rfl⟩
theorem dX1_skew_173 : decode cX1_skew 173 = .ok (.iload 5, 2) := by decide +kernel
theorem eX1_skew_173 : dec cX1_skew 173 (.iload 5) 2 175 := ⟨dX1_skew_173, rfl⟩
theorem dX1_skew_175 : decode cX1_skew 175 = .ok (.iload_n 2, 1) := by decide +kernel
theorem eX1_skew_175 : dec cX1_skew 175 (.iload_n 2) 1 176 := ⟨dX1_skew_175, rfl⟩
theorem dX1_skew_176 : decode cX1_skew 176 = .ok (.if_icmp .le 8, 3) := by decide +kernel
theorem eX1_skew_176 : dec cX1_skew 176 (.if_icmp .le 8) 3 179 := ⟨dX1_skew_176, rfl⟩
theorem dX1_skew_179 : decode cX1_skew 179 = .ok (.iload 5, 2) := by decide +kernel
theorem eX1_skew_179 : dec cX1_skew 179 (.iload 5) 2 181 := ⟨dX1_skew_179, rfl⟩
theorem dX1_skew_181 : decode cX1_skew 181 = .ok (.goto 4, 3) := by decide +kernel
theorem eX1_skew_181 : dec cX1_skew 181 (.goto 4) 3 184 := ⟨dX1_skew_181, rfl⟩
theorem dX1_skew_184 : decode cX1_skew 184 = .ok (.iload_n 2, 1) := by decide +kernel
theorem eX1_skew_184 : dec cX1_skew 184 (.iload_n 2) 1 185 := ⟨dX1_skew_184, rfl⟩
theorem dX1_skew_185 : decode cX1_skew 185 = .ok (.istore_n 2, 1) := by decide +kernel
theorem eX1_skew_185 : dec cX1_skew 185 (.istore_n 2) 1 186 := ⟨dX1_skew_185, rfl⟩
theorem dX1_skew_186 : decode cX1_skew 186 = .ok (.iinc 3 1, 3) := by decide +kernel
theorem eX1_skew_186 : dec cX1_skew 186 (.iinc 3 1) 3 189 := ⟨dX1_skew_186, rfl⟩
theorem dX1_skew_189 : decode cX1_skew 189 = .ok (.goto (-174), 3) := by decide +kernel
theorem eX1_skew_189 : dec cX1_skew 189 (.goto (-174)) 3 192 := ⟨dX1_skew_189, rfl⟩
theorem dX1_skew_192 : decode cX1_skew 192 = .ok (.iload_n 1, 1) := by decide +kernel
theorem eX1_skew_192 : dec cX1_skew 192 (.iload_n 1) 1 193 := ⟨dX1_skew_192, rfl⟩
theorem dX1_skew_193 : decode cX1_skew 193 = .ok (.ireturn, 1) := by decide +kernel
theorem eX1_skew_193 : dec cX1_skew 193 .ireturn 1 194 := ⟨dX1_skew_193, rfl⟩
theorem dX1_change_0 : decode cX1_change 0 = .ok (.iconst 0, 1) := by decide +kernel
theorem eX1_change_0 : dec cX1_change 0 (.iconst 0) 1 1 := ⟨dX1_change_0, rfl⟩
theorem dX1_change_1 : decode cX1_change 1 = .ok (.istore_n 1, 1) := by decide +kernel
theorem eX1_change_1 : dec cX1_change 1 (.istore_n 1) 1 2 := ⟨dX1_change_1, rfl⟩
theorem dX1_change_2 : decode cX1_change 2 = .ok (.iconst 0, 1) := by decide +kernel
theorem eX1_change_2 : dec cX1_change 2 (.iconst 0) 1 3 := ⟨dX1_change_2, rfl⟩
theorem dX1_change_3 : decode cX1_change 3 = .ok (.istore_n 2, 1) := by decide +kernel
theorem eX1_change_3 : dec cX1_change 3 (.istore_n 2) 1 4 := ⟨dX1_change_3, rfl⟩
theorem dX1_change_4 : decode cX1_change 4 = .ok (.iload_n 2, 1) := by decide +kernel
theorem eX1_change_4 : dec cX1_change 4 (.iload_n 2) 1 5 := ⟨dX1_change_4, rfl⟩
theorem dX1_change_5 : decode cX1_change 5 = .ok (.aload_n 0, 1) := by decide +kernel
theorem eX1_change_5 : dec cX1_change 5 (.aload_n 0) 1 6 := ⟨dX1_change_5, rfl⟩
theorem dX1_change_6 : decode cX1_change 6 = .ok (.getfield 42, 3) := by decide +kernel
theorem eX1_change_6 : dec cX1_change 6 (.getfield 42) 3 9 := ⟨dX1_change_6, rfl⟩
theorem dX1_change_9 : decode cX1_change 9 = .ok (.if_icmp .ge 44, 3) := by decide +kernel
theorem eX1_change_9 : dec cX1_change 9 (.if_icmp .ge 44) 3 12 := ⟨dX1_change_9, rfl⟩
theorem dX1_change_12 : decode cX1_change 12 = .ok (.aload_n 0, 1) := by decide +kernel
theorem eX1_change_12 : dec cX1_change 12 (.aload_n 0) 1 13 := ⟨dX1_change_12, rfl⟩
theorem dX1_change_13 : decode cX1_change 13 = .ok (.getfield 13, 3) := by decide +kernel
theorem eX1_change_13 : dec cX1_change 13 (.getfield 13) 3 16 := ⟨dX1_change_13, rfl⟩
theorem dX1_change_16 : decode cX1_change 16 = .ok (.iload_n 2, 1) := by decide +kernel
theorem eX1_change_16 : dec cX1_change 16 (.iload_n 2) 1 17 := ⟨dX1_change_16, rfl⟩
theorem dX1_change_17 : decode cX1_change 17 = .ok (.iaload, 1) := by decide +kernel
theorem eX1_change_17 : dec cX1_change 17 .iaload 1 18 := ⟨dX1_change_17, rfl⟩
theorem dX1_change_18 : decode cX1_change 18 = .ok (.aload_n 0, 1) := by decide +kernel
theorem eX1_change_18 : dec cX1_change 18 (.aload_n 0) 1 19 := ⟨dX1_change_18, rfl⟩
theorem dX1_change_19 : decode cX1_change 19 = .ok (.getfield 7, 3) := by decide +kernel
theorem eX1_change_19 : dec cX1_change 19 (.getfield 7) 3 22 := ⟨dX1_change_19, rfl⟩
theorem dX1_change_22 : decode cX1_change 22 = .ok (.iload_n 2, 1) := by decide +kernel
theorem eX1_change_22 : dec cX1_change 22 (.iload_n 2) 1 23 := ⟨dX1_change_22, rfl⟩
theorem dX1_change_23 : decode cX1_change 23 = .ok (.iaload, 1) := by decide +kernel
theorem eX1_change_23 : dec cX1_change 23 .iaload 1 24 := ⟨dX1_change_23, rfl⟩
theorem dX1_change_24 : decode cX1_change 24 = .ok (.if_icmp .eq 9, 3) := by decide +kernel
theorem eX1_change_24 : dec cX1_change 24 (.if_icmp .eq 9) 3 27 := ⟨dX1_change_24, rfl⟩
theorem dX1_change_27 : decode cX1_change 27 = .ok (.iload_n 1, 1) := by decide +kernel
theorem eX1_change_27 : dec cX1_change 27 (.iload_n 1) 1 28 := ⟨dX1_change_27, rfl⟩
theorem dX1_change_28 : decode cX1_change 28 = .ok (.iconst 1, 1) := by decide +kernel
theorem eX1_change_28 : dec cX1_change 28 (.iconst 1) 1 29 := ⟨dX1_change_28, rfl⟩
theorem dX1_change_29 : decode cX1_change 29 = .ok (.iadd, 1) := by decide +kernel
theorem eX1_change_29 : dec cX1_change 29 .iadd 1 30 := ⟨dX1_change_29, rfl⟩
theorem dX1_change_30 : decode cX1_change 30 = .ok (.goto 4, 3) := by decide +kernel
theorem eX1_change_30 : dec cX1_change 30 (.goto 4) 3 33 := ⟨dX1_change_30, rfl⟩
theorem dX1_change_33 : decode cX1_change 33 = .ok (.iload_n 1, 1) := by decide +kernel
theorem eX1_change_33 : dec cX1_change 33 (.iload_n 1) 1 34 := ⟨dX1_change_33, rfl⟩
theorem dX1_change_34 : decode cX1_change 34 = .ok (.istore_n 1, 1) := by decide +kernel
theorem eX1_change_34 : dec cX1_change 34 (.istore_n 1) 1 35 := ⟨dX1_change_34, rfl⟩
theorem dX1_change_35 : decode cX1_change 35 = .ok (.aload_n 0, 1) := by decide +kernel
theorem eX1_change_35 : dec cX1_change 35 (.aload_n 0) 1 36 := ⟨dX1_change_35, rfl⟩
theorem dX1_change_36 : decode cX1_change 36 = .ok (.getfield 7, 3) := by decide +kernel
theorem eX1_change_36 : dec cX1_change 36 (.getfield 7) 3 39 := ⟨dX1_change_36, rfl⟩
theorem dX1_change_39 : decode cX1_change 39 = .ok (.iload_n 2, 1) := by decide +kernel
theorem eX1_change_39 : dec cX1_change 39 (.iload_n 2) 1 40 := ⟨dX1_change_39, rfl⟩
theorem dX1_change_40 : decode cX1_change 40 = .ok (.aload_n 0, 1) := by decide +kernel
theorem eX1_change_40 : dec cX1_change 40 (.aload_n 0) 1 41 := ⟨dX1_change_40, rfl⟩
theorem dX1_change_41 : decode cX1_change 41 = .ok (.getfield 13, 3) := by decide +kernel
theorem eX1_change_41 : dec cX1_change 41 (.getfield 13) 3 44 := ⟨dX1_change_41, rfl⟩
theorem dX1_change_44 : decode cX1_change 44 = .ok (.iload_n 2, 1) := by decide +kernel
theorem eX1_change_44 : dec cX1_change 44 (.iload_n 2) 1 45 := ⟨dX1_change_44, rfl⟩
theorem dX1_change_45 : decode cX1_change 45 = .ok (.iaload, 1) := by decide +kernel
theorem eX1_change_45 : dec cX1_change 45 .iaload 1 46 := ⟨dX1_change_45, rfl⟩
theorem dX1_change_46 : decode cX1_change 46 = .ok (.iastore, 1) := by decide +kernel
theorem eX1_change_46 : dec cX1_change 46 .iastore 1 47 := ⟨dX1_change_46, rfl⟩
theorem dX1_change_47 : decode cX1_change 47 = .ok (.iinc 2 1, 3) := by decide +kernel
theorem eX1_change_47 : dec cX1_change 47 (.iinc 2 1) 3 50 := ⟨dX1_change_47, rfl⟩
theorem dX1_change_50 : decode cX1_change 50 = .ok (.goto (-46), 3) := by decide +kernel
theorem eX1_change_50 : dec cX1_change 50 (.goto (-46)) 3 53 := ⟨dX1_change_50, rfl⟩
theorem dX1_change_53 : decode cX1_change 53 = .ok (.iload_n 1, 1) := by decide +kernel
theorem eX1_change_53 : dec cX1_change 53 (.iload_n 1) 1 54 := ⟨dX1_change_53, rfl⟩
theorem dX1_change_54 : decode cX1_change 54 = .ok (.ireturn, 1) := by decide +kernel
theorem eX1_change_54 : dec cX1_change 54 .ireturn 1 55 := ⟨dX1_change_54, rfl⟩
set_option maxRecDepth 20000 in
theorem ggX1_turn_X1_rowOf : GoodIn wsX1_turn wsX1_rowOf := goodIn_r _ [10, 11, 16, 17, 18, 19, 20, 21, 22, 23, 24, 25, 26, 27, 28, 29, 30] (by decide +kernel) (by decide +kernel)
set_option maxRecDepth 20000 in
theorem gX1_turn_X1_rowOf : GoodIn wsX1_turn (wsV RX1 85 RX1 yX1_rowOf wsX1_rowOf) := goodIn_app (goodIn_of _ (by decide +kernel)) ggX1_turn_X1_rowOf
set_option maxRecDepth 20000 in
theorem ggX1_turn_X1_change : GoodIn wsX1_turn wsX1_change := goodIn_r _ [15, 2, 3, 5, 16, 17, 18, 19, 20, 21, 22, 23, 24, 25, 26, 27, 28, 29, 30] (by decide +kernel) (by decide +kernel)
set_option maxRecDepth 20000 in
theorem gX1_turn_X1_change : GoodIn wsX1_turn (wsV RX1 89 RX1 yX1_change wsX1_change) := goodIn_app (goodIn_of _ (by decide +kernel)) ggX1_turn_X1_change
theorem dX1_turn_0 : decode cX1_turn 0 = .ok (.aload_n 0, 1) := by decide +kernel
theorem eX1_turn_0 : dec cX1_turn 0 (.aload_n 0) 1 1 := ⟨dX1_turn_0, rfl⟩
theorem dX1_turn_1 : decode cX1_turn 1 = .ok (.iconst 0, 1) := by decide +kernel
theorem eX1_turn_1 : dec cX1_turn 1 (.iconst 0) 1 2 := ⟨dX1_turn_1, rfl⟩
theorem dX1_turn_2 : decode cX1_turn 2 = .ok (.putfield 45, 3) := by decide +kernel
theorem eX1_turn_2 : dec cX1_turn 2 (.putfield 45) 3 5 := ⟨dX1_turn_2, rfl⟩
theorem dX1_turn_5 : decode cX1_turn 5 = .ok (.iload_n 1, 1) := by decide +kernel
theorem eX1_turn_5 : dec cX1_turn 5 (.iload_n 1) 1 6 := ⟨dX1_turn_5, rfl⟩
theorem dX1_turn_6 : decode cX1_turn 6 = .ok (.bipush (-100), 2) := by decide +kernel
theorem eX1_turn_6 : dec cX1_turn 6 (.bipush (-100)) 2 8 := ⟨dX1_turn_6, rfl⟩
theorem dX1_turn_8 : decode cX1_turn 8 = .ok (.if_icmp .lt 9, 3) := by decide +kernel
theorem eX1_turn_8 : dec cX1_turn 8 (.if_icmp .lt 9) 3 11 := ⟨dX1_turn_8, rfl⟩
theorem dX1_turn_11 : decode cX1_turn 11 = .ok (.iload_n 1, 1) := by decide +kernel
theorem eX1_turn_11 : dec cX1_turn 11 (.iload_n 1) 1 12 := ⟨dX1_turn_11, rfl⟩
theorem dX1_turn_12 : decode cX1_turn 12 = .ok (.bipush 100, 2) := by decide +kernel
theorem eX1_turn_12 : dec cX1_turn 12 (.bipush 100) 2 14 := ⟨dX1_turn_12, rfl⟩
theorem dX1_turn_14 : decode cX1_turn 14 = .ok (.if_icmp .le 5, 3) := by decide +kernel
theorem eX1_turn_14 : dec cX1_turn 14 (.if_icmp .le 5) 3 17 := ⟨dX1_turn_14, rfl⟩
theorem dX1_turn_17 : decode cX1_turn 17 = .ok (.iconst (-1), 1) := by decide +kernel
theorem eX1_turn_17 : dec cX1_turn 17 (.iconst (-1)) 1 18 := ⟨dX1_turn_17, rfl⟩
theorem dX1_turn_18 : decode cX1_turn 18 = .ok (.ireturn, 1) := by decide +kernel
theorem eX1_turn_18 : dec cX1_turn 18 .ireturn 1 19 := ⟨dX1_turn_18, rfl⟩
theorem dX1_turn_19 : decode cX1_turn 19 = .ok (.iconst 0, 1) := by decide +kernel
theorem eX1_turn_19 : dec cX1_turn 19 (.iconst 0) 1 20 := ⟨dX1_turn_19, rfl⟩
theorem dX1_turn_20 : decode cX1_turn 20 = .ok (.istore_n 2, 1) := by decide +kernel
theorem eX1_turn_20 : dec cX1_turn 20 (.istore_n 2) 1 21 := ⟨dX1_turn_20, rfl⟩
theorem dX1_turn_21 : decode cX1_turn 21 = .ok (.iload_n 2, 1) := by decide +kernel
theorem eX1_turn_21 : dec cX1_turn 21 (.iload_n 2) 1 22 := ⟨dX1_turn_21, rfl⟩
theorem dX1_turn_22 : decode cX1_turn 22 = .ok (.aload_n 0, 1) := by decide +kernel
theorem eX1_turn_22 : dec cX1_turn 22 (.aload_n 0) 1 23 := ⟨dX1_turn_22, rfl⟩
theorem dX1_turn_23 : decode cX1_turn 23 = .ok (.getfield 42, 3) := by decide +kernel
theorem eX1_turn_23 : dec cX1_turn 23 (.getfield 42) 3 26 := ⟨dX1_turn_23, rfl⟩
theorem dX1_turn_26 : decode cX1_turn 26 = .ok (.if_icmp .ge 49, 3) := by decide +kernel
theorem eX1_turn_26 : dec cX1_turn 26 (.if_icmp .ge 49) 3 29 := ⟨dX1_turn_26, rfl⟩
theorem dX1_turn_29 : decode cX1_turn 29 = .ok (.aload_n 0, 1) := by decide +kernel
theorem eX1_turn_29 : dec cX1_turn 29 (.aload_n 0) 1 30 := ⟨dX1_turn_29, rfl⟩
theorem dX1_turn_30 : decode cX1_turn 30 = .ok (.getfield 13, 3) := by decide +kernel
theorem eX1_turn_30 : dec cX1_turn 30 (.getfield 13) 3 33 := ⟨dX1_turn_30, rfl⟩
theorem dX1_turn_33 : decode cX1_turn 33 = .ok (.aload_n 0, 1) := by decide +kernel
theorem eX1_turn_33 : dec cX1_turn 33 (.aload_n 0) 1 34 := ⟨dX1_turn_33, rfl⟩
theorem dX1_turn_34 : decode cX1_turn 34 = .ok (.getfield 35, 3) := by decide +kernel
theorem eX1_turn_34 : dec cX1_turn 34 (.getfield 35) 3 37 := ⟨dX1_turn_34, rfl⟩
theorem dX1_turn_37 : decode cX1_turn 37 = .ok (.aload_n 0, 1) := by decide +kernel
theorem eX1_turn_37 : dec cX1_turn 37 (.aload_n 0) 1 38 := ⟨dX1_turn_37, rfl⟩
theorem dX1_turn_38 : decode cX1_turn 38 = .ok (.iload_n 2, 1) := by decide +kernel
theorem eX1_turn_38 : dec cX1_turn 38 (.iload_n 2) 1 39 := ⟨dX1_turn_38, rfl⟩
theorem dX1_turn_39 : decode cX1_turn 39 = .ok (.aload_n 0, 1) := by decide +kernel
theorem eX1_turn_39 : dec cX1_turn 39 (.aload_n 0) 1 40 := ⟨dX1_turn_39, rfl⟩
theorem dX1_turn_40 : decode cX1_turn 40 = .ok (.getfield 35, 3) := by decide +kernel
theorem eX1_turn_40 : dec cX1_turn 40 (.getfield 35) 3 43 := ⟨dX1_turn_40, rfl⟩
theorem dX1_turn_43 : decode cX1_turn 43 = .ok (.irem, 1) := by decide +kernel
theorem eX1_turn_43 : dec cX1_turn 43 .irem 1 44 := ⟨dX1_turn_43, rfl⟩
theorem dX1_turn_44 : decode cX1_turn 44 = .ok (.iload_n 2, 1) := by decide +kernel
theorem eX1_turn_44 : dec cX1_turn 44 (.iload_n 2) 1 45 := ⟨dX1_turn_44, rfl⟩
theorem dX1_turn_45 : decode cX1_turn 45 = .ok (.aload_n 0, 1) := by decide +kernel
theorem eX1_turn_45 : dec cX1_turn 45 (.aload_n 0) 1 46 := ⟨dX1_turn_45, rfl⟩
theorem dX1_turn_46 : decode cX1_turn 46 = .ok (.getfield 35, 3) := by decide +kernel
theorem eX1_turn_46 : dec cX1_turn 46 (.getfield 35) 3 49 := ⟨dX1_turn_46, rfl⟩
theorem dX1_turn_49 : decode cX1_turn 49 = .ok (.idiv, 1) := by decide +kernel
theorem eX1_turn_49 : dec cX1_turn 49 .idiv 1 50 := ⟨dX1_turn_49, rfl⟩
theorem dX1_turn_50 : decode cX1_turn 50 = .ok (.iload_n 1, 1) := by decide +kernel
theorem eX1_turn_50 : dec cX1_turn 50 (.iload_n 1) 1 51 := ⟨dX1_turn_50, rfl⟩
theorem dX1_turn_51 : decode cX1_turn 51 = .ok (.invokevirtual 85, 3) := by decide +kernel
theorem eX1_turn_51 : dec cX1_turn 51 (.invokevirtual 85) 3 54 := ⟨dX1_turn_51, rfl⟩
theorem dX1_turn_54 : decode cX1_turn 54 = .ok (.imul, 1) := by decide +kernel
theorem eX1_turn_54 : dec cX1_turn 54 .imul 1 55 := ⟨dX1_turn_54, rfl⟩
theorem dX1_turn_55 : decode cX1_turn 55 = .ok (.iload_n 2, 1) := by decide +kernel
theorem eX1_turn_55 : dec cX1_turn 55 (.iload_n 2) 1 56 := ⟨dX1_turn_55, rfl⟩
theorem dX1_turn_56 : decode cX1_turn 56 = .ok (.aload_n 0, 1) := by decide +kernel
theorem eX1_turn_56 : dec cX1_turn 56 (.aload_n 0) 1 57 := ⟨dX1_turn_56, rfl⟩
theorem dX1_turn_57 : decode cX1_turn 57 = .ok (.getfield 35, 3) := by decide +kernel
theorem eX1_turn_57 : dec cX1_turn 57 (.getfield 35) 3 60 := ⟨dX1_turn_57, rfl⟩
theorem dX1_turn_60 : decode cX1_turn 60 = .ok (.irem, 1) := by decide +kernel
theorem eX1_turn_60 : dec cX1_turn 60 .irem 1 61 := ⟨dX1_turn_60, rfl⟩
theorem dX1_turn_61 : decode cX1_turn 61 = .ok (.iadd, 1) := by decide +kernel
theorem eX1_turn_61 : dec cX1_turn 61 .iadd 1 62 := ⟨dX1_turn_61, rfl⟩
theorem dX1_turn_62 : decode cX1_turn 62 = .ok (.aload_n 0, 1) := by decide +kernel
theorem eX1_turn_62 : dec cX1_turn 62 (.aload_n 0) 1 63 := ⟨dX1_turn_62, rfl⟩
theorem dX1_turn_63 : decode cX1_turn 63 = .ok (.getfield 7, 3) := by decide +kernel
theorem eX1_turn_63 : dec cX1_turn 63 (.getfield 7) 3 66 := ⟨dX1_turn_63, rfl⟩
theorem dX1_turn_66 : decode cX1_turn 66 = .ok (.iload_n 2, 1) := by decide +kernel
theorem eX1_turn_66 : dec cX1_turn 66 (.iload_n 2) 1 67 := ⟨dX1_turn_66, rfl⟩
theorem dX1_turn_67 : decode cX1_turn 67 = .ok (.iaload, 1) := by decide +kernel
theorem eX1_turn_67 : dec cX1_turn 67 .iaload 1 68 := ⟨dX1_turn_67, rfl⟩
theorem dX1_turn_68 : decode cX1_turn 68 = .ok (.iastore, 1) := by decide +kernel
theorem eX1_turn_68 : dec cX1_turn 68 .iastore 1 69 := ⟨dX1_turn_68, rfl⟩
theorem dX1_turn_69 : decode cX1_turn 69 = .ok (.iinc 2 1, 3) := by decide +kernel
theorem eX1_turn_69 : dec cX1_turn 69 (.iinc 2 1) 3 72 := ⟨dX1_turn_69, rfl⟩
theorem dX1_turn_72 : decode cX1_turn 72 = .ok (.goto (-51), 3) := by decide +kernel
theorem eX1_turn_72 : dec cX1_turn 72 (.goto (-51)) 3 75 := ⟨dX1_turn_72, rfl⟩
theorem dX1_turn_75 : decode cX1_turn 75 = .ok (.aload_n 0, 1) := by decide +kernel
theorem eX1_turn_75 : dec cX1_turn 75 (.aload_n 0) 1 76 := ⟨dX1_turn_75, rfl⟩
theorem dX1_turn_76 : decode cX1_turn 76 = .ok (.invokevirtual 89, 3) := by decide +kernel
theorem eX1_turn_76 : dec cX1_turn 76 (.invokevirtual 89) 3 79 := ⟨dX1_turn_76, rfl⟩
theorem dX1_turn_79 : decode cX1_turn 79 = .ok (.ireturn, 1) := by decide +kernel
theorem eX1_turn_79 : dec cX1_turn 79 .ireturn 1 80 := ⟨dX1_turn_79, rfl⟩
theorem dX1_pack_0 : decode cX1_pack 0 = .ok (.aload_n 0, 1) := by decide +kernel
theorem eX1_pack_0 : dec cX1_pack 0 (.aload_n 0) 1 1 := ⟨dX1_pack_0, rfl⟩
theorem dX1_pack_1 : decode cX1_pack 1 = .ok (.iconst 0, 1) := by decide +kernel
theorem eX1_pack_1 : dec cX1_pack 1 (.iconst 0) 1 2 := ⟨dX1_pack_1, rfl⟩
theorem dX1_pack_2 : decode cX1_pack 2 = .ok (.putfield 45, 3) := by decide +kernel
theorem eX1_pack_2 : dec cX1_pack 2 (.putfield 45) 3 5 := ⟨dX1_pack_2, rfl⟩
theorem dX1_pack_5 : decode cX1_pack 5 = .ok (.aload_n 0, 1) := by decide +kernel
theorem eX1_pack_5 : dec cX1_pack 5 (.aload_n 0) 1 6 := ⟨dX1_pack_5, rfl⟩
theorem dX1_pack_6 : decode cX1_pack 6 = .ok (.iconst 0, 1) := by decide +kernel
theorem eX1_pack_6 : dec cX1_pack 6 (.iconst 0) 1 7 := ⟨dX1_pack_6, rfl⟩
theorem dX1_pack_7 : decode cX1_pack 7 = .ok (.putfield 92, 3) := by decide +kernel
theorem eX1_pack_7 : dec cX1_pack 7 (.putfield 92) 3 10 := ⟨dX1_pack_7, rfl⟩
theorem dX1_pack_10 : decode cX1_pack 10 = .ok (.iconst 0, 1) := by decide +kernel
theorem eX1_pack_10 : dec cX1_pack 10 (.iconst 0) 1 11 := ⟨dX1_pack_10, rfl⟩
theorem dX1_pack_11 : decode cX1_pack 11 = .ok (.istore_n 1, 1) := by decide +kernel
theorem eX1_pack_11 : dec cX1_pack 11 (.istore_n 1) 1 12 := ⟨dX1_pack_11, rfl⟩
theorem dX1_pack_12 : decode cX1_pack 12 = .ok (.iload_n 1, 1) := by decide +kernel
theorem eX1_pack_12 : dec cX1_pack 12 (.iload_n 1) 1 13 := ⟨dX1_pack_12, rfl⟩
theorem dX1_pack_13 : decode cX1_pack 13 = .ok (.aload_n 0, 1) := by decide +kernel
theorem eX1_pack_13 : dec cX1_pack 13 (.aload_n 0) 1 14 := ⟨dX1_pack_13, rfl⟩
theorem dX1_pack_14 : decode cX1_pack 14 = .ok (.getfield 42, 3) := by decide +kernel
theorem eX1_pack_14 : dec cX1_pack 14 (.getfield 42) 3 17 := ⟨dX1_pack_14, rfl⟩
theorem dX1_pack_17 : decode cX1_pack 17 = .ok (.if_icmp .ge 91, 3) := by decide +kernel
theorem eX1_pack_17 : dec cX1_pack 17 (.if_icmp .ge 91) 3 20 := ⟨dX1_pack_17, rfl⟩
theorem dX1_pack_20 : decode cX1_pack 20 = .ok (.iconst 1, 1) := by decide +kernel
theorem eX1_pack_20 : dec cX1_pack 20 (.iconst 1) 1 21 := ⟨dX1_pack_20, rfl⟩
theorem dX1_pack_21 : decode cX1_pack 21 = .ok (.istore_n 2, 1) := by decide +kernel
theorem eX1_pack_21 : dec cX1_pack 21 (.istore_n 2) 1 22 := ⟨dX1_pack_21, rfl⟩
theorem dX1_pack_22 : decode cX1_pack 22 = .ok (.iload_n 2, 1) := by decide +kernel
theorem eX1_pack_22 : dec cX1_pack 22 (.iload_n 2) 1 23 := ⟨dX1_pack_22, rfl⟩
theorem dX1_pack_23 : decode cX1_pack 23 = .ok (.sipush 255, 3) := by decide +kernel
theorem eX1_pack_23 : dec cX1_pack 23 (.sipush 255) 3 26 := ⟨dX1_pack_23, rfl⟩
theorem dX1_pack_26 : decode cX1_pack 26 = .ok (.if_icmp .ge 36, 3) := by decide +kernel
theorem eX1_pack_26 : dec cX1_pack 26 (.if_icmp .ge 36) 3 29 := ⟨dX1_pack_26, rfl⟩
theorem dX1_pack_29 : decode cX1_pack 29 = .ok (.iload_n 1, 1) := by decide +kernel
theorem eX1_pack_29 : dec cX1_pack 29 (.iload_n 1) 1 30 := ⟨dX1_pack_29, rfl⟩
theorem dX1_pack_30 : decode cX1_pack 30 = .ok (.iload_n 2, 1) := by decide +kernel
theorem eX1_pack_30 : dec cX1_pack 30 (.iload_n 2) 1 31 := ⟨dX1_pack_30, rfl⟩
theorem dX1_pack_31 : decode cX1_pack 31 = .ok (.iadd, 1) := by decide +kernel
theorem eX1_pack_31 : dec cX1_pack 31 .iadd 1 32 := ⟨dX1_pack_31, rfl⟩
theorem dX1_pack_32 : decode cX1_pack 32 = .ok (.aload_n 0, 1) := by decide +kernel
theorem eX1_pack_32 : dec cX1_pack 32 (.aload_n 0) 1 33 := ⟨dX1_pack_32, rfl⟩
theorem dX1_pack_33 : decode cX1_pack 33 = .ok (.getfield 42, 3) := by decide +kernel
theorem eX1_pack_33 : dec cX1_pack 33 (.getfield 42) 3 36 := ⟨dX1_pack_33, rfl⟩
theorem dX1_pack_36 : decode cX1_pack 36 = .ok (.if_icmp .ge 26, 3) := by decide +kernel
theorem eX1_pack_36 : dec cX1_pack 36 (.if_icmp .ge 26) 3 39 := ⟨dX1_pack_36, rfl⟩
theorem dX1_pack_39 : decode cX1_pack 39 = .ok (.aload_n 0, 1) := by decide +kernel
theorem eX1_pack_39 : dec cX1_pack 39 (.aload_n 0) 1 40 := ⟨dX1_pack_39, rfl⟩
theorem dX1_pack_40 : decode cX1_pack 40 = .ok (.getfield 7, 3) := by decide +kernel
theorem eX1_pack_40 : dec cX1_pack 40 (.getfield 7) 3 43 := ⟨dX1_pack_40, rfl⟩
theorem dX1_pack_43 : decode cX1_pack 43 = .ok (.iload_n 1, 1) := by decide +kernel
theorem eX1_pack_43 : dec cX1_pack 43 (.iload_n 1) 1 44 := ⟨dX1_pack_43, rfl⟩
theorem dX1_pack_44 : decode cX1_pack 44 = .ok (.iload_n 2, 1) := by decide +kernel
theorem eX1_pack_44 : dec cX1_pack 44 (.iload_n 2) 1 45 := ⟨dX1_pack_44, rfl⟩
theorem dX1_pack_45 : decode cX1_pack 45 = .ok (.iadd, 1) := by decide +kernel
theorem eX1_pack_45 : dec cX1_pack 45 .iadd 1 46 := ⟨dX1_pack_45, rfl⟩
theorem dX1_pack_46 : decode cX1_pack 46 = .ok (.iaload, 1) := by decide +kernel
theorem eX1_pack_46 : dec cX1_pack 46 .iaload 1 47 := ⟨dX1_pack_46, rfl⟩
theorem dX1_pack_47 : decode cX1_pack 47 = .ok (.aload_n 0, 1) := by decide +kernel
theorem eX1_pack_47 : dec cX1_pack 47 (.aload_n 0) 1 48 := ⟨dX1_pack_47, rfl⟩
theorem dX1_pack_48 : decode cX1_pack 48 = .ok (.getfield 7, 3) := by decide +kernel
theorem eX1_pack_48 : dec cX1_pack 48 (.getfield 7) 3 51 := ⟨dX1_pack_48, rfl⟩
theorem dX1_pack_51 : decode cX1_pack 51 = .ok (.iload_n 1, 1) := by decide +kernel
theorem eX1_pack_51 : dec cX1_pack 51 (.iload_n 1) 1 52 := ⟨dX1_pack_51, rfl⟩
theorem dX1_pack_52 : decode cX1_pack 52 = .ok (.iaload, 1) := by decide +kernel
theorem eX1_pack_52 : dec cX1_pack 52 .iaload 1 53 := ⟨dX1_pack_52, rfl⟩
theorem dX1_pack_53 : decode cX1_pack 53 = .ok (.if_icmp .ne 9, 3) := by decide +kernel
theorem eX1_pack_53 : dec cX1_pack 53 (.if_icmp .ne 9) 3 56 := ⟨dX1_pack_53, rfl⟩
theorem dX1_pack_56 : decode cX1_pack 56 = .ok (.iinc 2 1, 3) := by decide +kernel
theorem eX1_pack_56 : dec cX1_pack 56 (.iinc 2 1) 3 59 := ⟨dX1_pack_56, rfl⟩
theorem dX1_pack_59 : decode cX1_pack 59 = .ok (.goto (-37), 3) := by decide +kernel
theorem eX1_pack_59 : dec cX1_pack 59 (.goto (-37)) 3 62 := ⟨dX1_pack_59, rfl⟩
theorem dX1_pack_62 : decode cX1_pack 62 = .ok (.aload_n 0, 1) := by decide +kernel
theorem eX1_pack_62 : dec cX1_pack 62 (.aload_n 0) 1 63 := ⟨dX1_pack_62, rfl⟩
theorem dX1_pack_63 : decode cX1_pack 63 = .ok (.getfield 28, 3) := by decide +kernel
theorem eX1_pack_63 : dec cX1_pack 63 (.getfield 28) 3 66 := ⟨dX1_pack_63, rfl⟩
theorem dX1_pack_66 : decode cX1_pack 66 = .ok (.aload_n 0, 1) := by decide +kernel
theorem eX1_pack_66 : dec cX1_pack 66 (.aload_n 0) 1 67 := ⟨dX1_pack_66, rfl⟩
theorem dX1_pack_67 : decode cX1_pack 67 = .ok (.getfield 92, 3) := by decide +kernel
theorem eX1_pack_67 : dec cX1_pack 67 (.getfield 92) 3 70 := ⟨dX1_pack_67, rfl⟩
theorem dX1_pack_70 : decode cX1_pack 70 = .ok (.iload_n 2, 1) := by decide +kernel
theorem eX1_pack_70 : dec cX1_pack 70 (.iload_n 2) 1 71 := ⟨dX1_pack_70, rfl⟩
theorem dX1_pack_71 : decode cX1_pack 71 = .ok (.i2b, 1) := by decide +kernel
theorem eX1_pack_71 : dec cX1_pack 71 .i2b 1 72 := ⟨dX1_pack_71, rfl⟩
theorem dX1_pack_72 : decode cX1_pack 72 = .ok (.bastore, 1) := by decide +kernel
theorem eX1_pack_72 : dec cX1_pack 72 .bastore 1 73 := ⟨dX1_pack_72, rfl⟩
theorem dX1_pack_73 : decode cX1_pack 73 = .ok (.aload_n 0, 1) := by decide +kernel
theorem eX1_pack_73 : dec cX1_pack 73 (.aload_n 0) 1 74 := ⟨dX1_pack_73, rfl⟩
theorem dX1_pack_74 : decode cX1_pack 74 = .ok (.getfield 28, 3) := by decide +kernel
theorem eX1_pack_74 : dec cX1_pack 74 (.getfield 28) 3 77 := ⟨dX1_pack_74, rfl⟩
theorem dX1_pack_77 : decode cX1_pack 77 = .ok (.aload_n 0, 1) := by decide +kernel
theorem eX1_pack_77 : dec cX1_pack 77 (.aload_n 0) 1 78 := ⟨dX1_pack_77, rfl⟩
theorem dX1_pack_78 : decode cX1_pack 78 = .ok (.getfield 92, 3) := by decide +kernel
theorem eX1_pack_78 : dec cX1_pack 78 (.getfield 92) 3 81 := ⟨dX1_pack_78, rfl⟩
theorem dX1_pack_81 : decode cX1_pack 81 = .ok (.iconst 1, 1) := by decide +kernel
theorem eX1_pack_81 : dec cX1_pack 81 (.iconst 1) 1 82 := ⟨dX1_pack_81, rfl⟩
theorem dX1_pack_82 : decode cX1_pack 82 = .ok (.iadd, 1) := by decide +kernel
theorem eX1_pack_82 : dec cX1_pack 82 .iadd 1 83 := ⟨dX1_pack_82, rfl⟩
theorem dX1_pack_83 : decode cX1_pack 83 = .ok (.aload_n 0, 1) := by decide +kernel
theorem eX1_pack_83 : dec cX1_pack 83 (.aload_n 0) 1 84 := ⟨dX1_pack_83, rfl⟩
theorem dX1_pack_84 : decode cX1_pack 84 = .ok (.getfield 7, 3) := by decide +kernel
theorem eX1_pack_84 : dec cX1_pack 84 (.getfield 7) 3 87 := ⟨dX1_pack_84, rfl⟩
theorem dX1_pack_87 : decode cX1_pack 87 = .ok (.iload_n 1, 1) := by decide +kernel
theorem eX1_pack_87 : dec cX1_pack 87 (.iload_n 1) 1 88 := ⟨dX1_pack_87, rfl⟩
theorem dX1_pack_88 : decode cX1_pack 88 = .ok (.iaload, 1) := by decide +kernel
theorem eX1_pack_88 : dec cX1_pack 88 .iaload 1 89 := ⟨dX1_pack_88, rfl⟩
theorem dX1_pack_89 : decode cX1_pack 89 = .ok (.i2b, 1) := by decide +kernel
theorem eX1_pack_89 : dec cX1_pack 89 .i2b 1 90 := ⟨dX1_pack_89, rfl⟩
theorem dX1_pack_90 : decode cX1_pack 90 = .ok (.bastore, 1) := by decide +kernel
theorem eX1_pack_90 : dec cX1_pack 90 .bastore 1 91 := ⟨dX1_pack_90, rfl⟩
theorem dX1_pack_91 : decode cX1_pack 91 = .ok (.aload_n 0, 1) := by decide +kernel
theorem eX1_pack_91 : dec cX1_pack 91 (.aload_n 0) 1 92 := ⟨dX1_pack_91, rfl⟩
theorem dX1_pack_92 : decode cX1_pack 92 = .ok (.aload_n 0, 1) := by decide +kernel
theorem eX1_pack_92 : dec cX1_pack 92 (.aload_n 0) 1 93 := ⟨dX1_pack_92, rfl⟩
theorem dX1_pack_93 : decode cX1_pack 93 = .ok (.getfield 92, 3) := by decide +kernel
theorem eX1_pack_93 : dec cX1_pack 93 (.getfield 92) 3 96 := ⟨dX1_pack_93, rfl⟩
theorem dX1_pack_96 : decode cX1_pack 96 = .ok (.iconst 2, 1) := by decide +kernel
theorem eX1_pack_96 : dec cX1_pack 96 (.iconst 2) 1 97 := ⟨dX1_pack_96, rfl⟩
theorem dX1_pack_97 : decode cX1_pack 97 = .ok (.iadd, 1) := by decide +kernel
theorem eX1_pack_97 : dec cX1_pack 97 .iadd 1 98 := ⟨dX1_pack_97, rfl⟩
theorem dX1_pack_98 : decode cX1_pack 98 = .ok (.putfield 92, 3) := by decide +kernel
theorem eX1_pack_98 : dec cX1_pack 98 (.putfield 92) 3 101 := ⟨dX1_pack_98, rfl⟩
theorem dX1_pack_101 : decode cX1_pack 101 = .ok (.iload_n 1, 1) := by decide +kernel
theorem eX1_pack_101 : dec cX1_pack 101 (.iload_n 1) 1 102 := ⟨dX1_pack_101, rfl⟩
theorem dX1_pack_102 : decode cX1_pack 102 = .ok (.iload_n 2, 1) := by decide +kernel
theorem eX1_pack_102 : dec cX1_pack 102 (.iload_n 2) 1 103 := ⟨dX1_pack_102, rfl⟩
theorem dX1_pack_103 : decode cX1_pack 103 = .ok (.iadd, 1) := by decide +kernel
theorem eX1_pack_103 : dec cX1_pack 103 .iadd 1 104 := ⟨dX1_pack_103, rfl⟩
theorem dX1_pack_104 : decode cX1_pack 104 = .ok (.istore_n 1, 1) := by decide +kernel
theorem eX1_pack_104 : dec cX1_pack 104 (.istore_n 1) 1 105 := ⟨dX1_pack_104, rfl⟩
theorem dX1_pack_105 : decode cX1_pack 105 = .ok (.goto (-93), 3) := by decide +kernel
theorem eX1_pack_105 : dec cX1_pack 105 (.goto (-93)) 3 108 := ⟨dX1_pack_105, rfl⟩
theorem dX1_pack_108 : decode cX1_pack 108 = .ok (.aload_n 0, 1) := by decide +kernel
theorem eX1_pack_108 : dec cX1_pack 108 (.aload_n 0) 1 109 := ⟨dX1_pack_108, rfl⟩
theorem dX1_pack_109 : decode cX1_pack 109 = .ok (.getfield 92, 3) := by decide +kernel
theorem eX1_pack_109 : dec cX1_pack 109 (.getfield 92) 3 112 := ⟨dX1_pack_109, rfl⟩
theorem dX1_pack_112 : decode cX1_pack 112 = .ok (.ireturn, 1) := by decide +kernel
theorem eX1_pack_112 : dec cX1_pack 112 .ireturn 1 113 := ⟨dX1_pack_112, rfl⟩
set_option maxRecDepth 20000 in
theorem ggX1_octet_X1_refused : GoodIn wsX1_octet wsX1_refused := goodIn_r _ [7, 8, 9, 10, 11, 12, 13, 14, 15, 16, 17, 18, 19, 20, 21, 22, 23] (by decide +kernel) (by decide +kernel)
set_option maxRecDepth 20000 in
theorem gX1_octet_X1_refused : GoodIn wsX1_octet (wsV RX1 52 RX1 yX1_refused wsX1_refused) := goodIn_app (goodIn_of _ (by decide +kernel)) ggX1_octet_X1_refused
theorem dX1_octet_0 : decode cX1_octet 0 = .ok (.aload_n 0, 1) := by decide +kernel
theorem eX1_octet_0 : dec cX1_octet 0 (.aload_n 0) 1 1 := ⟨dX1_octet_0, rfl⟩
theorem dX1_octet_1 : decode cX1_octet 1 = .ok (.iload_n 1, 1) := by decide +kernel
theorem eX1_octet_1 : dec cX1_octet 1 (.iload_n 1) 1 2 := ⟨dX1_octet_1, rfl⟩
theorem dX1_octet_2 : decode cX1_octet 2 = .ok (.ifCond .lt 11, 3) := by decide +kernel
theorem eX1_octet_2 : dec cX1_octet 2 (.ifCond .lt 11) 3 5 := ⟨dX1_octet_2, rfl⟩
theorem dX1_octet_5 : decode cX1_octet 5 = .ok (.iload_n 1, 1) := by decide +kernel
theorem eX1_octet_5 : dec cX1_octet 5 (.iload_n 1) 1 6 := ⟨dX1_octet_5, rfl⟩
theorem dX1_octet_6 : decode cX1_octet 6 = .ok (.aload_n 0, 1) := by decide +kernel
theorem eX1_octet_6 : dec cX1_octet 6 (.aload_n 0) 1 7 := ⟨dX1_octet_6, rfl⟩
theorem dX1_octet_7 : decode cX1_octet 7 = .ok (.getfield 92, 3) := by decide +kernel
theorem eX1_octet_7 : dec cX1_octet 7 (.getfield 92) 3 10 := ⟨dX1_octet_7, rfl⟩
theorem dX1_octet_10 : decode cX1_octet 10 = .ok (.if_icmp .lt 7, 3) := by decide +kernel
theorem eX1_octet_10 : dec cX1_octet 10 (.if_icmp .lt 7) 3 13 := ⟨dX1_octet_10, rfl⟩
theorem dX1_octet_13 : decode cX1_octet 13 = .ok (.iconst 1, 1) := by decide +kernel
theorem eX1_octet_13 : dec cX1_octet 13 (.iconst 1) 1 14 := ⟨dX1_octet_13, rfl⟩
theorem dX1_octet_14 : decode cX1_octet 14 = .ok (.goto 4, 3) := by decide +kernel
theorem eX1_octet_14 : dec cX1_octet 14 (.goto 4) 3 17 := ⟨dX1_octet_14, rfl⟩
theorem dX1_octet_17 : decode cX1_octet 17 = .ok (.iconst 0, 1) := by decide +kernel
theorem eX1_octet_17 : dec cX1_octet 17 (.iconst 0) 1 18 := ⟨dX1_octet_17, rfl⟩
theorem dX1_octet_18 : decode cX1_octet 18 = .ok (.invokevirtual 52, 3) := by decide +kernel
theorem eX1_octet_18 : dec cX1_octet 18 (.invokevirtual 52) 3 21 := ⟨dX1_octet_18, rfl⟩
theorem dX1_octet_21 : decode cX1_octet 21 = .ok (.ifCond .eq 7, 3) := by decide +kernel
theorem eX1_octet_21 : dec cX1_octet 21 (.ifCond .eq 7) 3 24 := ⟨dX1_octet_21, rfl⟩
theorem dX1_octet_24 : decode cX1_octet 24 = .ok (.iconst 0, 1) := by decide +kernel
theorem eX1_octet_24 : dec cX1_octet 24 (.iconst 0) 1 25 := ⟨dX1_octet_24, rfl⟩
theorem dX1_octet_25 : decode cX1_octet 25 = .ok (.goto 9, 3) := by decide +kernel
theorem eX1_octet_25 : dec cX1_octet 25 (.goto 9) 3 28 := ⟨dX1_octet_25, rfl⟩
theorem dX1_octet_28 : decode cX1_octet 28 = .ok (.aload_n 0, 1) := by decide +kernel
theorem eX1_octet_28 : dec cX1_octet 28 (.aload_n 0) 1 29 := ⟨dX1_octet_28, rfl⟩
theorem dX1_octet_29 : decode cX1_octet 29 = .ok (.getfield 28, 3) := by decide +kernel
theorem eX1_octet_29 : dec cX1_octet 29 (.getfield 28) 3 32 := ⟨dX1_octet_29, rfl⟩
theorem dX1_octet_32 : decode cX1_octet 32 = .ok (.iload_n 1, 1) := by decide +kernel
theorem eX1_octet_32 : dec cX1_octet 32 (.iload_n 1) 1 33 := ⟨dX1_octet_32, rfl⟩
theorem dX1_octet_33 : decode cX1_octet 33 = .ok (.baload, 1) := by decide +kernel
theorem eX1_octet_33 : dec cX1_octet 33 .baload 1 34 := ⟨dX1_octet_33, rfl⟩
theorem dX1_octet_34 : decode cX1_octet 34 = .ok (.ireturn, 1) := by decide +kernel
theorem eX1_octet_34 : dec cX1_octet 34 .ireturn 1 35 := ⟨dX1_octet_34, rfl⟩
theorem dX1_add_0 : decode cX1_add 0 = .ok (.aload_n 0, 1) := by decide +kernel
theorem eX1_add_0 : dec cX1_add 0 (.aload_n 0) 1 1 := ⟨dX1_add_0, rfl⟩
theorem dX1_add_1 : decode cX1_add 1 = .ok (.iconst 0, 1) := by decide +kernel
theorem eX1_add_1 : dec cX1_add 1 (.iconst 0) 1 2 := ⟨dX1_add_1, rfl⟩
theorem dX1_add_2 : decode cX1_add 2 = .ok (.putfield 45, 3) := by decide +kernel
theorem eX1_add_2 : dec cX1_add 2 (.putfield 45) 3 5 := ⟨dX1_add_2, rfl⟩
theorem dX1_add_5 : decode cX1_add 5 = .ok (.aload_n 0, 1) := by decide +kernel
theorem eX1_add_5 : dec cX1_add 5 (.aload_n 0) 1 6 := ⟨dX1_add_5, rfl⟩
theorem dX1_add_6 : decode cX1_add 6 = .ok (.getfield 95, 3) := by decide +kernel
theorem eX1_add_6 : dec cX1_add 6 (.getfield 95) 3 9 := ⟨dX1_add_6, rfl⟩
theorem dX1_add_9 : decode cX1_add 9 = .ok (.sipush 5000, 3) := by decide +kernel
theorem eX1_add_9 : dec cX1_add 9 (.sipush 5000) 3 12 := ⟨dX1_add_9, rfl⟩
theorem dX1_add_12 : decode cX1_add 12 = .ok (.if_icmp .ge 23, 3) := by decide +kernel
theorem eX1_add_12 : dec cX1_add 12 (.if_icmp .ge 23) 3 15 := ⟨dX1_add_12, rfl⟩
theorem dX1_add_15 : decode cX1_add 15 = .ok (.aload_n 0, 1) := by decide +kernel
theorem eX1_add_15 : dec cX1_add 15 (.aload_n 0) 1 16 := ⟨dX1_add_15, rfl⟩
theorem dX1_add_16 : decode cX1_add 16 = .ok (.getfield 32, 3) := by decide +kernel
theorem eX1_add_16 : dec cX1_add 16 (.getfield 32) 3 19 := ⟨dX1_add_16, rfl⟩
theorem dX1_add_19 : decode cX1_add 19 = .ok (.aload_n 0, 1) := by decide +kernel
theorem eX1_add_19 : dec cX1_add 19 (.aload_n 0) 1 20 := ⟨dX1_add_19, rfl⟩
theorem dX1_add_20 : decode cX1_add 20 = .ok (.getfield 95, 3) := by decide +kernel
theorem eX1_add_20 : dec cX1_add 20 (.getfield 95) 3 23 := ⟨dX1_add_20, rfl⟩
theorem dX1_add_23 : decode cX1_add 23 = .ok (.iload_n 1, 1) := by decide +kernel
theorem eX1_add_23 : dec cX1_add 23 (.iload_n 1) 1 24 := ⟨dX1_add_23, rfl⟩
theorem dX1_add_24 : decode cX1_add 24 = .ok (.bastore, 1) := by decide +kernel
theorem eX1_add_24 : dec cX1_add 24 .bastore 1 25 := ⟨dX1_add_24, rfl⟩
theorem dX1_add_25 : decode cX1_add 25 = .ok (.aload_n 0, 1) := by decide +kernel
theorem eX1_add_25 : dec cX1_add 25 (.aload_n 0) 1 26 := ⟨dX1_add_25, rfl⟩
theorem dX1_add_26 : decode cX1_add 26 = .ok (.dup, 1) := by decide +kernel
theorem eX1_add_26 : dec cX1_add 26 .dup 1 27 := ⟨dX1_add_26, rfl⟩
theorem dX1_add_27 : decode cX1_add 27 = .ok (.getfield 95, 3) := by decide +kernel
theorem eX1_add_27 : dec cX1_add 27 (.getfield 95) 3 30 := ⟨dX1_add_27, rfl⟩
theorem dX1_add_30 : decode cX1_add 30 = .ok (.iconst 1, 1) := by decide +kernel
theorem eX1_add_30 : dec cX1_add 30 (.iconst 1) 1 31 := ⟨dX1_add_30, rfl⟩
theorem dX1_add_31 : decode cX1_add 31 = .ok (.iadd, 1) := by decide +kernel
theorem eX1_add_31 : dec cX1_add 31 .iadd 1 32 := ⟨dX1_add_31, rfl⟩
theorem dX1_add_32 : decode cX1_add 32 = .ok (.putfield 95, 3) := by decide +kernel
theorem eX1_add_32 : dec cX1_add 32 (.putfield 95) 3 35 := ⟨dX1_add_32, rfl⟩
theorem dX1_add_35 : decode cX1_add 35 = .ok (.return_, 1) := by decide +kernel
theorem eX1_add_35 : dec cX1_add 35 .return_ 1 36 := ⟨dX1_add_35, rfl⟩
set_option maxRecDepth 20000 in
theorem ggX1_unpack_X1_change : GoodIn wsX1_unpack wsX1_change := goodIn_r _ [10, 3, 5, 11, 12, 13, 14, 15, 16, 17, 18, 19, 20, 21, 22, 23, 24, 25, 26] (by decide +kernel) (by decide +kernel)
set_option maxRecDepth 20000 in
theorem gX1_unpack_X1_change : GoodIn wsX1_unpack (wsV RX1 89 RX1 yX1_change wsX1_change) := goodIn_app (goodIn_of _ (by decide +kernel)) ggX1_unpack_X1_change
theorem dX1_unpack_0 : decode cX1_unpack 0 = .ok (.aload_n 0, 1) := by decide +kernel
theorem eX1_unpack_0 : dec cX1_unpack 0 (.aload_n 0) 1 1 := ⟨dX1_unpack_0, rfl⟩
theorem dX1_unpack_1 : decode cX1_unpack 1 = .ok (.iconst 0, 1) := by decide +kernel
theorem eX1_unpack_1 : dec cX1_unpack 1 (.iconst 0) 1 2 := ⟨dX1_unpack_1, rfl⟩
theorem dX1_unpack_2 : decode cX1_unpack 2 = .ok (.putfield 45, 3) := by decide +kernel
theorem eX1_unpack_2 : dec cX1_unpack 2 (.putfield 45) 3 5 := ⟨dX1_unpack_2, rfl⟩
theorem dX1_unpack_5 : decode cX1_unpack 5 = .ok (.aload_n 0, 1) := by decide +kernel
theorem eX1_unpack_5 : dec cX1_unpack 5 (.aload_n 0) 1 6 := ⟨dX1_unpack_5, rfl⟩
theorem dX1_unpack_6 : decode cX1_unpack 6 = .ok (.getfield 95, 3) := by decide +kernel
theorem eX1_unpack_6 : dec cX1_unpack 6 (.getfield 95) 3 9 := ⟨dX1_unpack_6, rfl⟩
theorem dX1_unpack_9 : decode cX1_unpack 9 = .ok (.istore_n 1, 1) := by decide +kernel
theorem eX1_unpack_9 : dec cX1_unpack 9 (.istore_n 1) 1 10 := ⟨dX1_unpack_9, rfl⟩
theorem dX1_unpack_10 : decode cX1_unpack 10 = .ok (.aload_n 0, 1) := by decide +kernel
theorem eX1_unpack_10 : dec cX1_unpack 10 (.aload_n 0) 1 11 := ⟨dX1_unpack_10, rfl⟩
theorem dX1_unpack_11 : decode cX1_unpack 11 = .ok (.iconst 0, 1) := by decide +kernel
theorem eX1_unpack_11 : dec cX1_unpack 11 (.iconst 0) 1 12 := ⟨dX1_unpack_11, rfl⟩
theorem dX1_unpack_12 : decode cX1_unpack 12 = .ok (.putfield 95, 3) := by decide +kernel
theorem eX1_unpack_12 : dec cX1_unpack 12 (.putfield 95) 3 15 := ⟨dX1_unpack_12, rfl⟩
theorem dX1_unpack_15 : decode cX1_unpack 15 = .ok (.iconst 0, 1) := by decide +kernel
theorem eX1_unpack_15 : dec cX1_unpack 15 (.iconst 0) 1 16 := ⟨dX1_unpack_15, rfl⟩
theorem dX1_unpack_16 : decode cX1_unpack 16 = .ok (.istore_n 2, 1) := by decide +kernel
theorem eX1_unpack_16 : dec cX1_unpack 16 (.istore_n 2) 1 17 := ⟨dX1_unpack_16, rfl⟩
theorem dX1_unpack_17 : decode cX1_unpack 17 = .ok (.iconst 0, 1) := by decide +kernel
theorem eX1_unpack_17 : dec cX1_unpack 17 (.iconst 0) 1 18 := ⟨dX1_unpack_17, rfl⟩
theorem dX1_unpack_18 : decode cX1_unpack 18 = .ok (.istore_n 3, 1) := by decide +kernel
theorem eX1_unpack_18 : dec cX1_unpack 18 (.istore_n 3) 1 19 := ⟨dX1_unpack_18, rfl⟩
theorem dX1_unpack_19 : decode cX1_unpack 19 = .ok (.iload_n 3, 1) := by decide +kernel
theorem eX1_unpack_19 : dec cX1_unpack 19 (.iload_n 3) 1 20 := ⟨dX1_unpack_19, rfl⟩
theorem dX1_unpack_20 : decode cX1_unpack 20 = .ok (.aload_n 0, 1) := by decide +kernel
theorem eX1_unpack_20 : dec cX1_unpack 20 (.aload_n 0) 1 21 := ⟨dX1_unpack_20, rfl⟩
theorem dX1_unpack_21 : decode cX1_unpack 21 = .ok (.getfield 42, 3) := by decide +kernel
theorem eX1_unpack_21 : dec cX1_unpack 21 (.getfield 42) 3 24 := ⟨dX1_unpack_21, rfl⟩
theorem dX1_unpack_24 : decode cX1_unpack 24 = .ok (.if_icmp .ge 104, 3) := by decide +kernel
theorem eX1_unpack_24 : dec cX1_unpack 24 (.if_icmp .ge 104) 3 27 := ⟨dX1_unpack_24, rfl⟩
theorem dX1_unpack_27 : decode cX1_unpack 27 = .ok (.iload_n 2, 1) := by decide +kernel
theorem eX1_unpack_27 : dec cX1_unpack 27 (.iload_n 2) 1 28 := ⟨dX1_unpack_27, rfl⟩
theorem dX1_unpack_28 : decode cX1_unpack 28 = .ok (.iload_n 1, 1) := by decide +kernel
theorem eX1_unpack_28 : dec cX1_unpack 28 (.iload_n 1) 1 29 := ⟨dX1_unpack_28, rfl⟩
theorem dX1_unpack_29 : decode cX1_unpack 29 = .ok (.if_icmp .lt 7, 3) := by decide +kernel
theorem eX1_unpack_29 : dec cX1_unpack 29 (.if_icmp .lt 7) 3 32 := ⟨dX1_unpack_29, rfl⟩
theorem dX1_unpack_32 : decode cX1_unpack 32 = .ok (.iconst (-1), 1) := by decide +kernel
theorem eX1_unpack_32 : dec cX1_unpack 32 (.iconst (-1)) 1 33 := ⟨dX1_unpack_32, rfl⟩
theorem dX1_unpack_33 : decode cX1_unpack 33 = .ok (.iload_n 1, 1) := by decide +kernel
theorem eX1_unpack_33 : dec cX1_unpack 33 (.iload_n 1) 1 34 := ⟨dX1_unpack_33, rfl⟩
theorem dX1_unpack_34 : decode cX1_unpack 34 = .ok (.isub, 1) := by decide +kernel
theorem eX1_unpack_34 : dec cX1_unpack 34 .isub 1 35 := ⟨dX1_unpack_34, rfl⟩
theorem dX1_unpack_35 : decode cX1_unpack 35 = .ok (.ireturn, 1) := by decide +kernel
theorem eX1_unpack_35 : dec cX1_unpack 35 .ireturn 1 36 := ⟨dX1_unpack_35, rfl⟩
theorem dX1_unpack_36 : decode cX1_unpack 36 = .ok (.aload_n 0, 1) := by decide +kernel
theorem eX1_unpack_36 : dec cX1_unpack 36 (.aload_n 0) 1 37 := ⟨dX1_unpack_36, rfl⟩
theorem dX1_unpack_37 : decode cX1_unpack 37 = .ok (.getfield 32, 3) := by decide +kernel
theorem eX1_unpack_37 : dec cX1_unpack 37 (.getfield 32) 3 40 := ⟨dX1_unpack_37, rfl⟩
theorem dX1_unpack_40 : decode cX1_unpack 40 = .ok (.iload_n 2, 1) := by decide +kernel
theorem eX1_unpack_40 : dec cX1_unpack 40 (.iload_n 2) 1 41 := ⟨dX1_unpack_40, rfl⟩
theorem dX1_unpack_41 : decode cX1_unpack 41 = .ok (.baload, 1) := by decide +kernel
theorem eX1_unpack_41 : dec cX1_unpack 41 .baload 1 42 := ⟨dX1_unpack_41, rfl⟩
theorem dX1_unpack_42 : decode cX1_unpack 42 = .ok (.sipush 255, 3) := by decide +kernel
theorem eX1_unpack_42 : dec cX1_unpack 42 (.sipush 255) 3 45 := ⟨dX1_unpack_42, rfl⟩
theorem dX1_unpack_45 : decode cX1_unpack 45 = .ok (.iand, 1) := by decide +kernel
theorem eX1_unpack_45 : dec cX1_unpack 45 .iand 1 46 := ⟨dX1_unpack_45, rfl⟩
theorem dX1_unpack_46 : decode cX1_unpack 46 = .ok (.istore 4, 2) := by decide +kernel
theorem eX1_unpack_46 : dec cX1_unpack 46 (.istore 4) 2 48 := ⟨dX1_unpack_46, rfl⟩
theorem dX1_unpack_48 : decode cX1_unpack 48 = .ok (.iload 4, 2) := by decide +kernel
theorem eX1_unpack_48 : dec cX1_unpack 48 (.iload 4) 2 50 := ⟨dX1_unpack_48, rfl⟩
theorem dX1_unpack_50 : decode cX1_unpack 50 = .ok (.ifCond .eq 14, 3) := by decide +kernel
theorem eX1_unpack_50 : dec cX1_unpack 50 (.ifCond .eq 14) 3 53 := ⟨dX1_unpack_50, rfl⟩
theorem dX1_unpack_53 : decode cX1_unpack 53 = .ok (.iload_n 3, 1) := by decide +kernel
theorem eX1_unpack_53 : dec cX1_unpack 53 (.iload_n 3) 1 54 := ⟨dX1_unpack_53, rfl⟩
theorem dX1_unpack_54 : decode cX1_unpack 54 = .ok (.iload 4, 2) := by decide +kernel
theorem eX1_unpack_54 : dec cX1_unpack 54 (.iload 4) 2 56 := ⟨dX1_unpack_54, rfl⟩
theorem dX1_unpack_56 : decode cX1_unpack 56 = .ok (.iadd, 1) := by decide +kernel
theorem eX1_unpack_56 : dec cX1_unpack 56 .iadd 1 57 := ⟨dX1_unpack_56, rfl⟩
theorem dX1_unpack_57 : decode cX1_unpack 57 = .ok (.aload_n 0, 1) := by decide +kernel
theorem eX1_unpack_57 : dec cX1_unpack 57 (.aload_n 0) 1 58 := ⟨dX1_unpack_57, rfl⟩
theorem dX1_unpack_58 : decode cX1_unpack 58 = .ok (.getfield 42, 3) := by decide +kernel
theorem eX1_unpack_58 : dec cX1_unpack 58 (.getfield 42) 3 61 := ⟨dX1_unpack_58, rfl⟩
theorem dX1_unpack_61 : decode cX1_unpack 61 = .ok (.if_icmp .le 7, 3) := by decide +kernel
theorem eX1_unpack_61 : dec cX1_unpack 61 (.if_icmp .le 7) 3 64 := ⟨dX1_unpack_61, rfl⟩
theorem dX1_unpack_64 : decode cX1_unpack 64 = .ok (.iconst (-1), 1) := by decide +kernel
theorem eX1_unpack_64 : dec cX1_unpack 64 (.iconst (-1)) 1 65 := ⟨dX1_unpack_64, rfl⟩
theorem dX1_unpack_65 : decode cX1_unpack 65 = .ok (.iload_n 2, 1) := by decide +kernel
theorem eX1_unpack_65 : dec cX1_unpack 65 (.iload_n 2) 1 66 := ⟨dX1_unpack_65, rfl⟩
theorem dX1_unpack_66 : decode cX1_unpack 66 = .ok (.isub, 1) := by decide +kernel
theorem eX1_unpack_66 : dec cX1_unpack 66 .isub 1 67 := ⟨dX1_unpack_66, rfl⟩
theorem dX1_unpack_67 : decode cX1_unpack 67 = .ok (.ireturn, 1) := by decide +kernel
theorem eX1_unpack_67 : dec cX1_unpack 67 .ireturn 1 68 := ⟨dX1_unpack_67, rfl⟩
theorem dX1_unpack_68 : decode cX1_unpack 68 = .ok (.iload_n 2, 1) := by decide +kernel
theorem eX1_unpack_68 : dec cX1_unpack 68 (.iload_n 2) 1 69 := ⟨dX1_unpack_68, rfl⟩
theorem dX1_unpack_69 : decode cX1_unpack 69 = .ok (.iconst 1, 1) := by decide +kernel
theorem eX1_unpack_69 : dec cX1_unpack 69 (.iconst 1) 1 70 := ⟨dX1_unpack_69, rfl⟩
theorem dX1_unpack_70 : decode cX1_unpack 70 = .ok (.iadd, 1) := by decide +kernel
theorem eX1_unpack_70 : dec cX1_unpack 70 .iadd 1 71 := ⟨dX1_unpack_70, rfl⟩
theorem dX1_unpack_71 : decode cX1_unpack 71 = .ok (.iload_n 1, 1) := by decide +kernel
theorem eX1_unpack_71 : dec cX1_unpack 71 (.iload_n 1) 1 72 := ⟨dX1_unpack_71, rfl⟩
theorem dX1_unpack_72 : decode cX1_unpack 72 = .ok (.if_icmp .lt 7, 3) := by decide +kernel
theorem eX1_unpack_72 : dec cX1_unpack 72 (.if_icmp .lt 7) 3 75 := ⟨dX1_unpack_72, rfl⟩
theorem dX1_unpack_75 : decode cX1_unpack 75 = .ok (.iconst (-1), 1) := by decide +kernel
theorem eX1_unpack_75 : dec cX1_unpack 75 (.iconst (-1)) 1 76 := ⟨dX1_unpack_75, rfl⟩
theorem dX1_unpack_76 : decode cX1_unpack 76 = .ok (.iload_n 1, 1) := by decide +kernel
theorem eX1_unpack_76 : dec cX1_unpack 76 (.iload_n 1) 1 77 := ⟨dX1_unpack_76, rfl⟩
theorem dX1_unpack_77 : decode cX1_unpack 77 = .ok (.isub, 1) := by decide +kernel
theorem eX1_unpack_77 : dec cX1_unpack 77 .isub 1 78 := ⟨dX1_unpack_77, rfl⟩
theorem dX1_unpack_78 : decode cX1_unpack 78 = .ok (.ireturn, 1) := by decide +kernel
theorem eX1_unpack_78 : dec cX1_unpack 78 .ireturn 1 79 := ⟨dX1_unpack_78, rfl⟩
theorem dX1_unpack_79 : decode cX1_unpack 79 = .ok (.iconst 0, 1) := by decide +kernel
theorem eX1_unpack_79 : dec cX1_unpack 79 (.iconst 0) 1 80 := ⟨dX1_unpack_79, rfl⟩
theorem dX1_unpack_80 : decode cX1_unpack 80 = .ok (.istore 5, 2) := by decide +kernel
theorem eX1_unpack_80 : dec cX1_unpack 80 (.istore 5) 2 82 := ⟨dX1_unpack_80, rfl⟩
theorem dX1_unpack_82 : decode cX1_unpack 82 = .ok (.iload 5, 2) := by decide +kernel
theorem eX1_unpack_82 : dec cX1_unpack 82 (.iload 5) 2 84 := ⟨dX1_unpack_82, rfl⟩
theorem dX1_unpack_84 : decode cX1_unpack 84 = .ok (.iload 4, 2) := by decide +kernel
theorem eX1_unpack_84 : dec cX1_unpack 84 (.iload 4) 2 86 := ⟨dX1_unpack_84, rfl⟩
theorem dX1_unpack_86 : decode cX1_unpack 86 = .ok (.if_icmp .ge 30, 3) := by decide +kernel
theorem eX1_unpack_86 : dec cX1_unpack 86 (.if_icmp .ge 30) 3 89 := ⟨dX1_unpack_86, rfl⟩
theorem dX1_unpack_89 : decode cX1_unpack 89 = .ok (.aload_n 0, 1) := by decide +kernel
theorem eX1_unpack_89 : dec cX1_unpack 89 (.aload_n 0) 1 90 := ⟨dX1_unpack_89, rfl⟩
theorem dX1_unpack_90 : decode cX1_unpack 90 = .ok (.getfield 13, 3) := by decide +kernel
theorem eX1_unpack_90 : dec cX1_unpack 90 (.getfield 13) 3 93 := ⟨dX1_unpack_90, rfl⟩
theorem dX1_unpack_93 : decode cX1_unpack 93 = .ok (.iload_n 3, 1) := by decide +kernel
theorem eX1_unpack_93 : dec cX1_unpack 93 (.iload_n 3) 1 94 := ⟨dX1_unpack_93, rfl⟩
theorem dX1_unpack_94 : decode cX1_unpack 94 = .ok (.iload 5, 2) := by decide +kernel
theorem eX1_unpack_94 : dec cX1_unpack 94 (.iload 5) 2 96 := ⟨dX1_unpack_94, rfl⟩
theorem dX1_unpack_96 : decode cX1_unpack 96 = .ok (.iadd, 1) := by decide +kernel
theorem eX1_unpack_96 : dec cX1_unpack 96 .iadd 1 97 := ⟨dX1_unpack_96, rfl⟩
theorem dX1_unpack_97 : decode cX1_unpack 97 = .ok (.aload_n 0, 1) := by decide +kernel
theorem eX1_unpack_97 : dec cX1_unpack 97 (.aload_n 0) 1 98 := ⟨dX1_unpack_97, rfl⟩
theorem dX1_unpack_98 : decode cX1_unpack 98 = .ok (.getfield 32, 3) := by decide +kernel
theorem eX1_unpack_98 : dec cX1_unpack 98 (.getfield 32) 3 101 := ⟨dX1_unpack_98, rfl⟩
theorem dX1_unpack_101 : decode cX1_unpack 101 = .ok (.iload_n 2, 1) := by decide +kernel
theorem eX1_unpack_101 : dec cX1_unpack 101 (.iload_n 2) 1 102 := ⟨dX1_unpack_101, rfl⟩
theorem dX1_unpack_102 : decode cX1_unpack 102 = .ok (.iconst 1, 1) := by decide +kernel
theorem eX1_unpack_102 : dec cX1_unpack 102 (.iconst 1) 1 103 := ⟨dX1_unpack_102, rfl⟩
theorem dX1_unpack_103 : decode cX1_unpack 103 = .ok (.iadd, 1) := by decide +kernel
theorem eX1_unpack_103 : dec cX1_unpack 103 .iadd 1 104 := ⟨dX1_unpack_103, rfl⟩
theorem dX1_unpack_104 : decode cX1_unpack 104 = .ok (.baload, 1) := by decide +kernel
theorem eX1_unpack_104 : dec cX1_unpack 104 .baload 1 105 := ⟨dX1_unpack_104, rfl⟩
theorem dX1_unpack_105 : decode cX1_unpack 105 = .ok (.sipush 255, 3) := by decide +kernel
theorem eX1_unpack_105 : dec cX1_unpack 105 (.sipush 255) 3 108 := ⟨dX1_unpack_105, rfl⟩
theorem dX1_unpack_108 : decode cX1_unpack 108 = .ok (.iand, 1) := by decide +kernel
theorem eX1_unpack_108 : dec cX1_unpack 108 .iand 1 109 := ⟨dX1_unpack_108, rfl⟩
theorem dX1_unpack_109 : decode cX1_unpack 109 = .ok (.iastore, 1) := by decide +kernel
theorem eX1_unpack_109 : dec cX1_unpack 109 .iastore 1 110 := ⟨dX1_unpack_109, rfl⟩
theorem dX1_unpack_110 : decode cX1_unpack 110 = .ok (.iinc 5 1, 3) := by decide +kernel
theorem eX1_unpack_110 : dec cX1_unpack 110 (.iinc 5 1) 3 113 := ⟨dX1_unpack_110, rfl⟩
theorem dX1_unpack_113 : decode cX1_unpack 113 = .ok (.goto (-31), 3) := by decide +kernel
theorem eX1_unpack_113 : dec cX1_unpack 113 (.goto (-31)) 3 116 := ⟨dX1_unpack_113, rfl⟩
theorem dX1_unpack_116 : decode cX1_unpack 116 = .ok (.iload_n 3, 1) := by decide +kernel
theorem eX1_unpack_116 : dec cX1_unpack 116 (.iload_n 3) 1 117 := ⟨dX1_unpack_116, rfl⟩
theorem dX1_unpack_117 : decode cX1_unpack 117 = .ok (.iload 4, 2) := by decide +kernel
theorem eX1_unpack_117 : dec cX1_unpack 117 (.iload 4) 2 119 := ⟨dX1_unpack_117, rfl⟩
theorem dX1_unpack_119 : decode cX1_unpack 119 = .ok (.iadd, 1) := by decide +kernel
theorem eX1_unpack_119 : dec cX1_unpack 119 .iadd 1 120 := ⟨dX1_unpack_119, rfl⟩
theorem dX1_unpack_120 : decode cX1_unpack 120 = .ok (.istore_n 3, 1) := by decide +kernel
theorem eX1_unpack_120 : dec cX1_unpack 120 (.istore_n 3) 1 121 := ⟨dX1_unpack_120, rfl⟩
theorem dX1_unpack_121 : decode cX1_unpack 121 = .ok (.iload_n 2, 1) := by decide +kernel
theorem eX1_unpack_121 : dec cX1_unpack 121 (.iload_n 2) 1 122 := ⟨dX1_unpack_121, rfl⟩
theorem dX1_unpack_122 : decode cX1_unpack 122 = .ok (.iconst 2, 1) := by decide +kernel
theorem eX1_unpack_122 : dec cX1_unpack 122 (.iconst 2) 1 123 := ⟨dX1_unpack_122, rfl⟩
theorem dX1_unpack_123 : decode cX1_unpack 123 = .ok (.iadd, 1) := by decide +kernel
theorem eX1_unpack_123 : dec cX1_unpack 123 .iadd 1 124 := ⟨dX1_unpack_123, rfl⟩
theorem dX1_unpack_124 : decode cX1_unpack 124 = .ok (.istore_n 2, 1) := by decide +kernel
theorem eX1_unpack_124 : dec cX1_unpack 124 (.istore_n 2) 1 125 := ⟨dX1_unpack_124, rfl⟩
theorem dX1_unpack_125 : decode cX1_unpack 125 = .ok (.goto (-106), 3) := by decide +kernel
theorem eX1_unpack_125 : dec cX1_unpack 125 (.goto (-106)) 3 128 := ⟨dX1_unpack_125, rfl⟩
theorem dX1_unpack_128 : decode cX1_unpack 128 = .ok (.iload_n 2, 1) := by decide +kernel
theorem eX1_unpack_128 : dec cX1_unpack 128 (.iload_n 2) 1 129 := ⟨dX1_unpack_128, rfl⟩
theorem dX1_unpack_129 : decode cX1_unpack 129 = .ok (.iload_n 1, 1) := by decide +kernel
theorem eX1_unpack_129 : dec cX1_unpack 129 (.iload_n 1) 1 130 := ⟨dX1_unpack_129, rfl⟩
theorem dX1_unpack_130 : decode cX1_unpack 130 = .ok (.if_icmp .ge 7, 3) := by decide +kernel
theorem eX1_unpack_130 : dec cX1_unpack 130 (.if_icmp .ge 7) 3 133 := ⟨dX1_unpack_130, rfl⟩
theorem dX1_unpack_133 : decode cX1_unpack 133 = .ok (.iconst (-1), 1) := by decide +kernel
theorem eX1_unpack_133 : dec cX1_unpack 133 (.iconst (-1)) 1 134 := ⟨dX1_unpack_133, rfl⟩
theorem dX1_unpack_134 : decode cX1_unpack 134 = .ok (.iload_n 2, 1) := by decide +kernel
theorem eX1_unpack_134 : dec cX1_unpack 134 (.iload_n 2) 1 135 := ⟨dX1_unpack_134, rfl⟩
theorem dX1_unpack_135 : decode cX1_unpack 135 = .ok (.isub, 1) := by decide +kernel
theorem eX1_unpack_135 : dec cX1_unpack 135 .isub 1 136 := ⟨dX1_unpack_135, rfl⟩
theorem dX1_unpack_136 : decode cX1_unpack 136 = .ok (.ireturn, 1) := by decide +kernel
theorem eX1_unpack_136 : dec cX1_unpack 136 .ireturn 1 137 := ⟨dX1_unpack_136, rfl⟩
theorem dX1_unpack_137 : decode cX1_unpack 137 = .ok (.aload_n 0, 1) := by decide +kernel
theorem eX1_unpack_137 : dec cX1_unpack 137 (.aload_n 0) 1 138 := ⟨dX1_unpack_137, rfl⟩
theorem dX1_unpack_138 : decode cX1_unpack 138 = .ok (.invokevirtual 89, 3) := by decide +kernel
theorem eX1_unpack_138 : dec cX1_unpack 138 (.invokevirtual 89) 3 141 := ⟨dX1_unpack_138, rfl⟩
theorem dX1_unpack_141 : decode cX1_unpack 141 = .ok (.pop, 1) := by decide +kernel
theorem eX1_unpack_141 : dec cX1_unpack 141 .pop 1 142 := ⟨dX1_unpack_141, rfl⟩
theorem dX1_unpack_142 : decode cX1_unpack 142 = .ok (.iconst 1, 1) := by decide +kernel
theorem eX1_unpack_142 : dec cX1_unpack 142 (.iconst 1) 1 143 := ⟨dX1_unpack_142, rfl⟩
theorem dX1_unpack_143 : decode cX1_unpack 143 = .ok (.ireturn, 1) := by decide +kernel
theorem eX1_unpack_143 : dec cX1_unpack 143 .ireturn 1 144 := ⟨dX1_unpack_143, rfl⟩
theorem dX1_mean_0 : decode cX1_mean 0 = .ok (.iconst 2, 1) := by decide +kernel
theorem eX1_mean_0 : dec cX1_mean 0 (.iconst 2) 1 1 := ⟨dX1_mean_0, rfl⟩
theorem dX1_mean_1 : decode cX1_mean 1 = .ok (.aload_n 0, 1) := by decide +kernel
theorem eX1_mean_1 : dec cX1_mean 1 (.aload_n 0) 1 2 := ⟨dX1_mean_1, rfl⟩
theorem dX1_mean_2 : decode cX1_mean 2 = .ok (.getfield 35, 3) := by decide +kernel
theorem eX1_mean_2 : dec cX1_mean 2 (.getfield 35) 3 5 := ⟨dX1_mean_2, rfl⟩
theorem dX1_mean_5 : decode cX1_mean 5 = .ok (.imul, 1) := by decide +kernel
theorem eX1_mean_5 : dec cX1_mean 5 .imul 1 6 := ⟨dX1_mean_5, rfl⟩
theorem dX1_mean_6 : decode cX1_mean 6 = .ok (.iload_n 2, 1) := by decide +kernel
theorem eX1_mean_6 : dec cX1_mean 6 (.iload_n 2) 1 7 := ⟨dX1_mean_6, rfl⟩
theorem dX1_mean_7 : decode cX1_mean 7 = .ok (.imul, 1) := by decide +kernel
theorem eX1_mean_7 : dec cX1_mean 7 .imul 1 8 := ⟨dX1_mean_7, rfl⟩
theorem dX1_mean_8 : decode cX1_mean 8 = .ok (.iconst 2, 1) := by decide +kernel
theorem eX1_mean_8 : dec cX1_mean 8 (.iconst 2) 1 9 := ⟨dX1_mean_8, rfl⟩
theorem dX1_mean_9 : decode cX1_mean 9 = .ok (.iload_n 1, 1) := by decide +kernel
theorem eX1_mean_9 : dec cX1_mean 9 (.iload_n 1) 1 10 := ⟨dX1_mean_9, rfl⟩
theorem dX1_mean_10 : decode cX1_mean 10 = .ok (.imul, 1) := by decide +kernel
theorem eX1_mean_10 : dec cX1_mean 10 .imul 1 11 := ⟨dX1_mean_10, rfl⟩
theorem dX1_mean_11 : decode cX1_mean 11 = .ok (.iadd, 1) := by decide +kernel
theorem eX1_mean_11 : dec cX1_mean 11 .iadd 1 12 := ⟨dX1_mean_11, rfl⟩
theorem dX1_mean_12 : decode cX1_mean 12 = .ok (.istore_n 3, 1) := by decide +kernel
theorem eX1_mean_12 : dec cX1_mean 12 (.istore_n 3) 1 13 := ⟨dX1_mean_12, rfl⟩
theorem dX1_mean_13 : decode cX1_mean 13 = .ok (.aload_n 0, 1) := by decide +kernel
theorem eX1_mean_13 : dec cX1_mean 13 (.aload_n 0) 1 14 := ⟨dX1_mean_13, rfl⟩
theorem dX1_mean_14 : decode cX1_mean 14 = .ok (.getfield 7, 3) := by decide +kernel
theorem eX1_mean_14 : dec cX1_mean 14 (.getfield 7) 3 17 := ⟨dX1_mean_14, rfl⟩
theorem dX1_mean_17 : decode cX1_mean 17 = .ok (.iload_n 3, 1) := by decide +kernel
theorem eX1_mean_17 : dec cX1_mean 17 (.iload_n 3) 1 18 := ⟨dX1_mean_17, rfl⟩
theorem dX1_mean_18 : decode cX1_mean 18 = .ok (.iaload, 1) := by decide +kernel
theorem eX1_mean_18 : dec cX1_mean 18 .iaload 1 19 := ⟨dX1_mean_18, rfl⟩
theorem dX1_mean_19 : decode cX1_mean 19 = .ok (.aload_n 0, 1) := by decide +kernel
theorem eX1_mean_19 : dec cX1_mean 19 (.aload_n 0) 1 20 := ⟨dX1_mean_19, rfl⟩
theorem dX1_mean_20 : decode cX1_mean 20 = .ok (.getfield 7, 3) := by decide +kernel
theorem eX1_mean_20 : dec cX1_mean 20 (.getfield 7) 3 23 := ⟨dX1_mean_20, rfl⟩
theorem dX1_mean_23 : decode cX1_mean 23 = .ok (.iload_n 3, 1) := by decide +kernel
theorem eX1_mean_23 : dec cX1_mean 23 (.iload_n 3) 1 24 := ⟨dX1_mean_23, rfl⟩
theorem dX1_mean_24 : decode cX1_mean 24 = .ok (.iconst 1, 1) := by decide +kernel
theorem eX1_mean_24 : dec cX1_mean 24 (.iconst 1) 1 25 := ⟨dX1_mean_24, rfl⟩
theorem dX1_mean_25 : decode cX1_mean 25 = .ok (.iadd, 1) := by decide +kernel
theorem eX1_mean_25 : dec cX1_mean 25 .iadd 1 26 := ⟨dX1_mean_25, rfl⟩
theorem dX1_mean_26 : decode cX1_mean 26 = .ok (.iaload, 1) := by decide +kernel
theorem eX1_mean_26 : dec cX1_mean 26 .iaload 1 27 := ⟨dX1_mean_26, rfl⟩
theorem dX1_mean_27 : decode cX1_mean 27 = .ok (.iadd, 1) := by decide +kernel
theorem eX1_mean_27 : dec cX1_mean 27 .iadd 1 28 := ⟨dX1_mean_27, rfl⟩
theorem dX1_mean_28 : decode cX1_mean 28 = .ok (.aload_n 0, 1) := by decide +kernel
theorem eX1_mean_28 : dec cX1_mean 28 (.aload_n 0) 1 29 := ⟨dX1_mean_28, rfl⟩
theorem dX1_mean_29 : decode cX1_mean 29 = .ok (.getfield 7, 3) := by decide +kernel
theorem eX1_mean_29 : dec cX1_mean 29 (.getfield 7) 3 32 := ⟨dX1_mean_29, rfl⟩
theorem dX1_mean_32 : decode cX1_mean 32 = .ok (.iload_n 3, 1) := by decide +kernel
theorem eX1_mean_32 : dec cX1_mean 32 (.iload_n 3) 1 33 := ⟨dX1_mean_32, rfl⟩
theorem dX1_mean_33 : decode cX1_mean 33 = .ok (.aload_n 0, 1) := by decide +kernel
theorem eX1_mean_33 : dec cX1_mean 33 (.aload_n 0) 1 34 := ⟨dX1_mean_33, rfl⟩
theorem dX1_mean_34 : decode cX1_mean 34 = .ok (.getfield 35, 3) := by decide +kernel
theorem eX1_mean_34 : dec cX1_mean 34 (.getfield 35) 3 37 := ⟨dX1_mean_34, rfl⟩
theorem dX1_mean_37 : decode cX1_mean 37 = .ok (.iadd, 1) := by decide +kernel
theorem eX1_mean_37 : dec cX1_mean 37 .iadd 1 38 := ⟨dX1_mean_37, rfl⟩
theorem dX1_mean_38 : decode cX1_mean 38 = .ok (.iaload, 1) := by decide +kernel
theorem eX1_mean_38 : dec cX1_mean 38 .iaload 1 39 := ⟨dX1_mean_38, rfl⟩
theorem dX1_mean_39 : decode cX1_mean 39 = .ok (.iadd, 1) := by decide +kernel
theorem eX1_mean_39 : dec cX1_mean 39 .iadd 1 40 := ⟨dX1_mean_39, rfl⟩
theorem dX1_mean_40 : decode cX1_mean 40 = .ok (.aload_n 0, 1) := by decide +kernel
theorem eX1_mean_40 : dec cX1_mean 40 (.aload_n 0) 1 41 := ⟨dX1_mean_40, rfl⟩
theorem dX1_mean_41 : decode cX1_mean 41 = .ok (.getfield 7, 3) := by decide +kernel
theorem eX1_mean_41 : dec cX1_mean 41 (.getfield 7) 3 44 := ⟨dX1_mean_41, rfl⟩
theorem dX1_mean_44 : decode cX1_mean 44 = .ok (.iload_n 3, 1) := by decide +kernel
theorem eX1_mean_44 : dec cX1_mean 44 (.iload_n 3) 1 45 := ⟨dX1_mean_44, rfl⟩
theorem dX1_mean_45 : decode cX1_mean 45 = .ok (.aload_n 0, 1) := by decide +kernel
theorem eX1_mean_45 : dec cX1_mean 45 (.aload_n 0) 1 46 := ⟨dX1_mean_45, rfl⟩
theorem dX1_mean_46 : decode cX1_mean 46 = .ok (.getfield 35, 3) := by decide +kernel
theorem eX1_mean_46 : dec cX1_mean 46 (.getfield 35) 3 49 := ⟨dX1_mean_46, rfl⟩
theorem dX1_mean_49 : decode cX1_mean 49 = .ok (.iadd, 1) := by decide +kernel
theorem eX1_mean_49 : dec cX1_mean 49 .iadd 1 50 := ⟨dX1_mean_49, rfl⟩
theorem dX1_mean_50 : decode cX1_mean 50 = .ok (.iconst 1, 1) := by decide +kernel
theorem eX1_mean_50 : dec cX1_mean 50 (.iconst 1) 1 51 := ⟨dX1_mean_50, rfl⟩
theorem dX1_mean_51 : decode cX1_mean 51 = .ok (.iadd, 1) := by decide +kernel
theorem eX1_mean_51 : dec cX1_mean 51 .iadd 1 52 := ⟨dX1_mean_51, rfl⟩
theorem dX1_mean_52 : decode cX1_mean 52 = .ok (.iaload, 1) := by decide +kernel
theorem eX1_mean_52 : dec cX1_mean 52 .iaload 1 53 := ⟨dX1_mean_52, rfl⟩
theorem dX1_mean_53 : decode cX1_mean 53 = .ok (.iadd, 1) := by decide +kernel
theorem eX1_mean_53 : dec cX1_mean 53 .iadd 1 54 := ⟨dX1_mean_53, rfl⟩
theorem dX1_mean_54 : decode cX1_mean 54 = .ok (.iconst 4, 1) := by decide +kernel
theorem eX1_mean_54 : dec cX1_mean 54 (.iconst 4) 1 55 := ⟨dX1_mean_54, rfl⟩
theorem dX1_mean_55 : decode cX1_mean 55 = .ok (.idiv, 1) := by decide +kernel
theorem eX1_mean_55 : dec cX1_mean 55 .idiv 1 56 := ⟨dX1_mean_55, rfl⟩
theorem dX1_mean_56 : decode cX1_mean 56 = .ok (.ireturn, 1) := by decide +kernel
theorem eX1_mean_56 : dec cX1_mean 56 .ireturn 1 57 := ⟨dX1_mean_56, rfl⟩
set_option maxRecDepth 20000 in
theorem ggX1_side_X1_mean : GoodIn wsX1_side wsX1_mean := goodIn_r _ [11, 3, 5, 16, 17, 18, 19, 20, 21, 22, 23, 24, 25, 26, 27, 28, 29, 30] (by decide +kernel) (by decide +kernel)
set_option maxRecDepth 20000 in
theorem gX1_side_X1_mean : GoodIn wsX1_side (wsV RX1 98 RX1 yX1_mean wsX1_mean) := goodIn_app (goodIn_of _ (by decide +kernel)) ggX1_side_X1_mean
set_option maxRecDepth 20000 in
theorem ggX1_side_X1_change : GoodIn wsX1_side wsX1_change := goodIn_r _ [15, 2, 4, 5, 16, 17, 18, 19, 20, 21, 22, 23, 24, 25, 26, 27, 28, 29, 30] (by decide +kernel) (by decide +kernel)
set_option maxRecDepth 20000 in
theorem gX1_side_X1_change : GoodIn wsX1_side (wsV RX1 89 RX1 yX1_change wsX1_change) := goodIn_app (goodIn_of _ (by decide +kernel)) ggX1_side_X1_change
theorem dX1_side_0 : decode cX1_side 0 = .ok (.aload_n 0, 1) := by decide +kernel
theorem eX1_side_0 : dec cX1_side 0 (.aload_n 0) 1 1 := ⟨dX1_side_0, rfl⟩
theorem dX1_side_1 : decode cX1_side 1 = .ok (.iconst 0, 1) := by decide +kernel
theorem eX1_side_1 : dec cX1_side 1 (.iconst 0) 1 2 := ⟨dX1_side_1, rfl⟩
theorem dX1_side_2 : decode cX1_side 2 = .ok (.putfield 45, 3) := by decide +kernel
theorem eX1_side_2 : dec cX1_side 2 (.putfield 45) 3 5 := ⟨dX1_side_2, rfl⟩
theorem dX1_side_5 : decode cX1_side 5 = .ok (.iload_n 1, 1) := by decide +kernel
theorem eX1_side_5 : dec cX1_side 5 (.iload_n 1) 1 6 := ⟨dX1_side_5, rfl⟩
theorem dX1_side_6 : decode cX1_side 6 = .ok (.ifCond .lt 8, 3) := by decide +kernel
theorem eX1_side_6 : dec cX1_side 6 (.ifCond .lt 8) 3 9 := ⟨dX1_side_6, rfl⟩
theorem dX1_side_9 : decode cX1_side 9 = .ok (.iload_n 1, 1) := by decide +kernel
theorem eX1_side_9 : dec cX1_side 9 (.iload_n 1) 1 10 := ⟨dX1_side_9, rfl⟩
theorem dX1_side_10 : decode cX1_side 10 = .ok (.iconst 3, 1) := by decide +kernel
theorem eX1_side_10 : dec cX1_side 10 (.iconst 3) 1 11 := ⟨dX1_side_10, rfl⟩
theorem dX1_side_11 : decode cX1_side 11 = .ok (.if_icmp .le 5, 3) := by decide +kernel
theorem eX1_side_11 : dec cX1_side 11 (.if_icmp .le 5) 3 14 := ⟨dX1_side_11, rfl⟩
theorem dX1_side_14 : decode cX1_side 14 = .ok (.iconst (-1), 1) := by decide +kernel
theorem eX1_side_14 : dec cX1_side 14 (.iconst (-1)) 1 15 := ⟨dX1_side_14, rfl⟩
theorem dX1_side_15 : decode cX1_side 15 = .ok (.ireturn, 1) := by decide +kernel
theorem eX1_side_15 : dec cX1_side 15 .ireturn 1 16 := ⟨dX1_side_15, rfl⟩
theorem dX1_side_16 : decode cX1_side 16 = .ok (.iconst 0, 1) := by decide +kernel
theorem eX1_side_16 : dec cX1_side 16 (.iconst 0) 1 17 := ⟨dX1_side_16, rfl⟩
theorem dX1_side_17 : decode cX1_side 17 = .ok (.istore_n 2, 1) := by decide +kernel
theorem eX1_side_17 : dec cX1_side 17 (.istore_n 2) 1 18 := ⟨dX1_side_17, rfl⟩
theorem dX1_side_18 : decode cX1_side 18 = .ok (.iload_n 2, 1) := by decide +kernel
theorem eX1_side_18 : dec cX1_side 18 (.iload_n 2) 1 19 := ⟨dX1_side_18, rfl⟩
theorem dX1_side_19 : decode cX1_side 19 = .ok (.aload_n 0, 1) := by decide +kernel
theorem eX1_side_19 : dec cX1_side 19 (.aload_n 0) 1 20 := ⟨dX1_side_19, rfl⟩
theorem dX1_side_20 : decode cX1_side 20 = .ok (.getfield 42, 3) := by decide +kernel
theorem eX1_side_20 : dec cX1_side 20 (.getfield 42) 3 23 := ⟨dX1_side_20, rfl⟩
theorem dX1_side_23 : decode cX1_side 23 = .ok (.if_icmp .ge 157, 3) := by decide +kernel
theorem eX1_side_23 : dec cX1_side 23 (.if_icmp .ge 157) 3 26 := ⟨dX1_side_23, rfl⟩
theorem dX1_side_26 : decode cX1_side 26 = .ok (.iload_n 2, 1) := by decide +kernel
theorem eX1_side_26 : dec cX1_side 26 (.iload_n 2) 1 27 := ⟨dX1_side_26, rfl⟩
theorem dX1_side_27 : decode cX1_side 27 = .ok (.aload_n 0, 1) := by decide +kernel
theorem eX1_side_27 : dec cX1_side 27 (.aload_n 0) 1 28 := ⟨dX1_side_27, rfl⟩
theorem dX1_side_28 : decode cX1_side 28 = .ok (.getfield 35, 3) := by decide +kernel
theorem eX1_side_28 : dec cX1_side 28 (.getfield 35) 3 31 := ⟨dX1_side_28, rfl⟩
theorem dX1_side_31 : decode cX1_side 31 = .ok (.irem, 1) := by decide +kernel
theorem eX1_side_31 : dec cX1_side 31 .irem 1 32 := ⟨dX1_side_31, rfl⟩
theorem dX1_side_32 : decode cX1_side 32 = .ok (.istore_n 3, 1) := by decide +kernel
theorem eX1_side_32 : dec cX1_side 32 (.istore_n 3) 1 33 := ⟨dX1_side_32, rfl⟩
theorem dX1_side_33 : decode cX1_side 33 = .ok (.iload_n 2, 1) := by decide +kernel
theorem eX1_side_33 : dec cX1_side 33 (.iload_n 2) 1 34 := ⟨dX1_side_33, rfl⟩
theorem dX1_side_34 : decode cX1_side 34 = .ok (.aload_n 0, 1) := by decide +kernel
theorem eX1_side_34 : dec cX1_side 34 (.aload_n 0) 1 35 := ⟨dX1_side_34, rfl⟩
theorem dX1_side_35 : decode cX1_side 35 = .ok (.getfield 35, 3) := by decide +kernel
theorem eX1_side_35 : dec cX1_side 35 (.getfield 35) 3 38 := ⟨dX1_side_35, rfl⟩
theorem dX1_side_38 : decode cX1_side 38 = .ok (.idiv, 1) := by decide +kernel
theorem eX1_side_38 : dec cX1_side 38 .idiv 1 39 := ⟨dX1_side_38, rfl⟩
theorem dX1_side_39 : decode cX1_side 39 = .ok (.istore 4, 2) := by decide +kernel
theorem eX1_side_39 : dec cX1_side 39 (.istore 4) 2 41 := ⟨dX1_side_39, rfl⟩
theorem dX1_side_41 : decode cX1_side 41 = .ok (.iload_n 1, 1) := by decide +kernel
theorem eX1_side_41 : dec cX1_side 41 (.iload_n 1) 1 42 := ⟨dX1_side_41, rfl⟩
theorem dX1_side_42 : decode cX1_side 42 = .ok (.ifCond .ne 33, 3) := by decide +kernel
theorem eX1_side_42 : dec cX1_side 42 (.ifCond .ne 33) 3 45 := ⟨dX1_side_42, rfl⟩
theorem dX1_side_45 : decode cX1_side 45 = .ok (.aload_n 0, 1) := by decide +kernel
theorem eX1_side_45 : dec cX1_side 45 (.aload_n 0) 1 46 := ⟨dX1_side_45, rfl⟩
theorem dX1_side_46 : decode cX1_side 46 = .ok (.getfield 13, 3) := by decide +kernel
theorem eX1_side_46 : dec cX1_side 46 (.getfield 13) 3 49 := ⟨dX1_side_46, rfl⟩
theorem dX1_side_49 : decode cX1_side 49 = .ok (.iload_n 2, 1) := by decide +kernel
theorem eX1_side_49 : dec cX1_side 49 (.iload_n 2) 1 50 := ⟨dX1_side_49, rfl⟩
theorem dX1_side_50 : decode cX1_side 50 = .ok (.aload_n 0, 1) := by decide +kernel
theorem eX1_side_50 : dec cX1_side 50 (.aload_n 0) 1 51 := ⟨dX1_side_50, rfl⟩
theorem dX1_side_51 : decode cX1_side 51 = .ok (.getfield 7, 3) := by decide +kernel
theorem eX1_side_51 : dec cX1_side 51 (.getfield 7) 3 54 := ⟨dX1_side_51, rfl⟩
theorem dX1_side_54 : decode cX1_side 54 = .ok (.aload_n 0, 1) := by decide +kernel
theorem eX1_side_54 : dec cX1_side 54 (.aload_n 0) 1 55 := ⟨dX1_side_54, rfl⟩
theorem dX1_side_55 : decode cX1_side 55 = .ok (.getfield 35, 3) := by decide +kernel
theorem eX1_side_55 : dec cX1_side 55 (.getfield 35) 3 58 := ⟨dX1_side_55, rfl⟩
theorem dX1_side_58 : decode cX1_side 58 = .ok (.iload 4, 2) := by decide +kernel
theorem eX1_side_58 : dec cX1_side 58 (.iload 4) 2 60 := ⟨dX1_side_58, rfl⟩
theorem dX1_side_60 : decode cX1_side 60 = .ok (.imul, 1) := by decide +kernel
theorem eX1_side_60 : dec cX1_side 60 .imul 1 61 := ⟨dX1_side_60, rfl⟩
theorem dX1_side_61 : decode cX1_side 61 = .ok (.aload_n 0, 1) := by decide +kernel
theorem eX1_side_61 : dec cX1_side 61 (.aload_n 0) 1 62 := ⟨dX1_side_61, rfl⟩
theorem dX1_side_62 : decode cX1_side 62 = .ok (.getfield 35, 3) := by decide +kernel
theorem eX1_side_62 : dec cX1_side 62 (.getfield 35) 3 65 := ⟨dX1_side_62, rfl⟩
theorem dX1_side_65 : decode cX1_side 65 = .ok (.iadd, 1) := by decide +kernel
theorem eX1_side_65 : dec cX1_side 65 .iadd 1 66 := ⟨dX1_side_65, rfl⟩
theorem dX1_side_66 : decode cX1_side 66 = .ok (.iconst 1, 1) := by decide +kernel
theorem eX1_side_66 : dec cX1_side 66 (.iconst 1) 1 67 := ⟨dX1_side_66, rfl⟩
theorem dX1_side_67 : decode cX1_side 67 = .ok (.isub, 1) := by decide +kernel
theorem eX1_side_67 : dec cX1_side 67 .isub 1 68 := ⟨dX1_side_67, rfl⟩
theorem dX1_side_68 : decode cX1_side 68 = .ok (.iload_n 3, 1) := by decide +kernel
theorem eX1_side_68 : dec cX1_side 68 (.iload_n 3) 1 69 := ⟨dX1_side_68, rfl⟩
theorem dX1_side_69 : decode cX1_side 69 = .ok (.isub, 1) := by decide +kernel
theorem eX1_side_69 : dec cX1_side 69 .isub 1 70 := ⟨dX1_side_69, rfl⟩
theorem dX1_side_70 : decode cX1_side 70 = .ok (.iaload, 1) := by decide +kernel
theorem eX1_side_70 : dec cX1_side 70 .iaload 1 71 := ⟨dX1_side_70, rfl⟩
theorem dX1_side_71 : decode cX1_side 71 = .ok (.iastore, 1) := by decide +kernel
theorem eX1_side_71 : dec cX1_side 71 .iastore 1 72 := ⟨dX1_side_71, rfl⟩
theorem dX1_side_72 : decode cX1_side 72 = .ok (.goto 102, 3) := by decide +kernel
theorem eX1_side_72 : dec cX1_side 72 (.goto 102) 3 75 := ⟨dX1_side_72, rfl⟩
theorem dX1_side_75 : decode cX1_side 75 = .ok (.iload_n 1, 1) := by decide +kernel
theorem eX1_side_75 : dec cX1_side 75 (.iload_n 1) 1 76 := ⟨dX1_side_75, rfl⟩
theorem dX1_side_76 : decode cX1_side 76 = .ok (.iconst 1, 1) := by decide +kernel
theorem eX1_side_76 : dec cX1_side 76 (.iconst 1) 1 77 := ⟨dX1_side_76, rfl⟩
theorem dX1_side_77 : decode cX1_side 77 = .ok (.if_icmp .ne 33, 3) := by decide +kernel
theorem eX1_side_77 : dec cX1_side 77 (.if_icmp .ne 33) 3 80 := ⟨dX1_side_77, rfl⟩
theorem dX1_side_80 : decode cX1_side 80 = .ok (.aload_n 0, 1) := by decide +kernel
theorem eX1_side_80 : dec cX1_side 80 (.aload_n 0) 1 81 := ⟨dX1_side_80, rfl⟩
theorem dX1_side_81 : decode cX1_side 81 = .ok (.getfield 13, 3) := by decide +kernel
theorem eX1_side_81 : dec cX1_side 81 (.getfield 13) 3 84 := ⟨dX1_side_81, rfl⟩
theorem dX1_side_84 : decode cX1_side 84 = .ok (.iload_n 2, 1) := by decide +kernel
theorem eX1_side_84 : dec cX1_side 84 (.iload_n 2) 1 85 := ⟨dX1_side_84, rfl⟩
theorem dX1_side_85 : decode cX1_side 85 = .ok (.aload_n 0, 1) := by decide +kernel
theorem eX1_side_85 : dec cX1_side 85 (.aload_n 0) 1 86 := ⟨dX1_side_85, rfl⟩
theorem dX1_side_86 : decode cX1_side 86 = .ok (.getfield 7, 3) := by decide +kernel
theorem eX1_side_86 : dec cX1_side 86 (.getfield 7) 3 89 := ⟨dX1_side_86, rfl⟩
theorem dX1_side_89 : decode cX1_side 89 = .ok (.aload_n 0, 1) := by decide +kernel
theorem eX1_side_89 : dec cX1_side 89 (.aload_n 0) 1 90 := ⟨dX1_side_89, rfl⟩
theorem dX1_side_90 : decode cX1_side 90 = .ok (.getfield 35, 3) := by decide +kernel
theorem eX1_side_90 : dec cX1_side 90 (.getfield 35) 3 93 := ⟨dX1_side_90, rfl⟩
theorem dX1_side_93 : decode cX1_side 93 = .ok (.aload_n 0, 1) := by decide +kernel
theorem eX1_side_93 : dec cX1_side 93 (.aload_n 0) 1 94 := ⟨dX1_side_93, rfl⟩
theorem dX1_side_94 : decode cX1_side 94 = .ok (.getfield 39, 3) := by decide +kernel
theorem eX1_side_94 : dec cX1_side 94 (.getfield 39) 3 97 := ⟨dX1_side_94, rfl⟩
theorem dX1_side_97 : decode cX1_side 97 = .ok (.iconst 1, 1) := by decide +kernel
theorem eX1_side_97 : dec cX1_side 97 (.iconst 1) 1 98 := ⟨dX1_side_97, rfl⟩
theorem dX1_side_98 : decode cX1_side 98 = .ok (.isub, 1) := by decide +kernel
theorem eX1_side_98 : dec cX1_side 98 .isub 1 99 := ⟨dX1_side_98, rfl⟩
theorem dX1_side_99 : decode cX1_side 99 = .ok (.iload 4, 2) := by decide +kernel
theorem eX1_side_99 : dec cX1_side 99 (.iload 4) 2 101 := ⟨dX1_side_99, rfl⟩
theorem dX1_side_101 : decode cX1_side 101 = .ok (.isub, 1) := by decide +kernel
theorem eX1_side_101 : dec cX1_side 101 .isub 1 102 := ⟨dX1_side_101, rfl⟩
theorem dX1_side_102 : decode cX1_side 102 = .ok (.imul, 1) := by decide +kernel
theorem eX1_side_102 : dec cX1_side 102 .imul 1 103 := ⟨dX1_side_102, rfl⟩
theorem dX1_side_103 : decode cX1_side 103 = .ok (.iload_n 3, 1) := by decide +kernel
theorem eX1_side_103 : dec cX1_side 103 (.iload_n 3) 1 104 := ⟨dX1_side_103, rfl⟩
theorem dX1_side_104 : decode cX1_side 104 = .ok (.iadd, 1) := by decide +kernel
theorem eX1_side_104 : dec cX1_side 104 .iadd 1 105 := ⟨dX1_side_104, rfl⟩
theorem dX1_side_105 : decode cX1_side 105 = .ok (.iaload, 1) := by decide +kernel
theorem eX1_side_105 : dec cX1_side 105 .iaload 1 106 := ⟨dX1_side_105, rfl⟩
theorem dX1_side_106 : decode cX1_side 106 = .ok (.iastore, 1) := by decide +kernel
theorem eX1_side_106 : dec cX1_side 106 .iastore 1 107 := ⟨dX1_side_106, rfl⟩
theorem dX1_side_107 : decode cX1_side 107 = .ok (.goto 67, 3) := by decide +kernel
theorem eX1_side_107 : dec cX1_side 107 (.goto 67) 3 110 := ⟨dX1_side_107, rfl⟩
theorem dX1_side_110 : decode cX1_side 110 = .ok (.iload_n 1, 1) := by decide +kernel
theorem eX1_side_110 : dec cX1_side 110 (.iload_n 1) 1 111 := ⟨dX1_side_110, rfl⟩
theorem dX1_side_111 : decode cX1_side 111 = .ok (.iconst 2, 1) := by decide +kernel
theorem eX1_side_111 : dec cX1_side 111 (.iconst 2) 1 112 := ⟨dX1_side_111, rfl⟩
theorem dX1_side_112 : decode cX1_side 112 = .ok (.if_icmp .ne 22, 3) := by decide +kernel
theorem eX1_side_112 : dec cX1_side 112 (.if_icmp .ne 22) 3 115 := ⟨dX1_side_112, rfl⟩
theorem dX1_side_115 : decode cX1_side 115 = .ok (.aload_n 0, 1) := by decide +kernel
theorem eX1_side_115 : dec cX1_side 115 (.aload_n 0) 1 116 := ⟨dX1_side_115, rfl⟩
theorem dX1_side_116 : decode cX1_side 116 = .ok (.getfield 13, 3) := by decide +kernel
theorem eX1_side_116 : dec cX1_side 116 (.getfield 13) 3 119 := ⟨dX1_side_116, rfl⟩
theorem dX1_side_119 : decode cX1_side 119 = .ok (.iload_n 2, 1) := by decide +kernel
theorem eX1_side_119 : dec cX1_side 119 (.iload_n 2) 1 120 := ⟨dX1_side_119, rfl⟩
theorem dX1_side_120 : decode cX1_side 120 = .ok (.sipush 255, 3) := by decide +kernel
theorem eX1_side_120 : dec cX1_side 120 (.sipush 255) 3 123 := ⟨dX1_side_120, rfl⟩
theorem dX1_side_123 : decode cX1_side 123 = .ok (.aload_n 0, 1) := by decide +kernel
theorem eX1_side_123 : dec cX1_side 123 (.aload_n 0) 1 124 := ⟨dX1_side_123, rfl⟩
theorem dX1_side_124 : decode cX1_side 124 = .ok (.getfield 7, 3) := by decide +kernel
theorem eX1_side_124 : dec cX1_side 124 (.getfield 7) 3 127 := ⟨dX1_side_124, rfl⟩
theorem dX1_side_127 : decode cX1_side 127 = .ok (.iload_n 2, 1) := by decide +kernel
theorem eX1_side_127 : dec cX1_side 127 (.iload_n 2) 1 128 := ⟨dX1_side_127, rfl⟩
theorem dX1_side_128 : decode cX1_side 128 = .ok (.iaload, 1) := by decide +kernel
theorem eX1_side_128 : dec cX1_side 128 .iaload 1 129 := ⟨dX1_side_128, rfl⟩
theorem dX1_side_129 : decode cX1_side 129 = .ok (.isub, 1) := by decide +kernel
theorem eX1_side_129 : dec cX1_side 129 .isub 1 130 := ⟨dX1_side_129, rfl⟩
theorem dX1_side_130 : decode cX1_side 130 = .ok (.iastore, 1) := by decide +kernel
theorem eX1_side_130 : dec cX1_side 130 .iastore 1 131 := ⟨dX1_side_130, rfl⟩
theorem dX1_side_131 : decode cX1_side 131 = .ok (.goto 43, 3) := by decide +kernel
theorem eX1_side_131 : dec cX1_side 131 (.goto 43) 3 134 := ⟨dX1_side_131, rfl⟩
theorem dX1_side_134 : decode cX1_side 134 = .ok (.aload_n 0, 1) := by decide +kernel
theorem eX1_side_134 : dec cX1_side 134 (.aload_n 0) 1 135 := ⟨dX1_side_134, rfl⟩
theorem dX1_side_135 : decode cX1_side 135 = .ok (.getfield 13, 3) := by decide +kernel
theorem eX1_side_135 : dec cX1_side 135 (.getfield 13) 3 138 := ⟨dX1_side_135, rfl⟩
theorem dX1_side_138 : decode cX1_side 138 = .ok (.iload_n 2, 1) := by decide +kernel
theorem eX1_side_138 : dec cX1_side 138 (.iload_n 2) 1 139 := ⟨dX1_side_138, rfl⟩
theorem dX1_side_139 : decode cX1_side 139 = .ok (.iload_n 3, 1) := by decide +kernel
theorem eX1_side_139 : dec cX1_side 139 (.iload_n 3) 1 140 := ⟨dX1_side_139, rfl⟩
theorem dX1_side_140 : decode cX1_side 140 = .ok (.aload_n 0, 1) := by decide +kernel
theorem eX1_side_140 : dec cX1_side 140 (.aload_n 0) 1 141 := ⟨dX1_side_140, rfl⟩
theorem dX1_side_141 : decode cX1_side 141 = .ok (.getfield 35, 3) := by decide +kernel
theorem eX1_side_141 : dec cX1_side 141 (.getfield 35) 3 144 := ⟨dX1_side_141, rfl⟩
theorem dX1_side_144 : decode cX1_side 144 = .ok (.iconst 2, 1) := by decide +kernel
theorem eX1_side_144 : dec cX1_side 144 (.iconst 2) 1 145 := ⟨dX1_side_144, rfl⟩
theorem dX1_side_145 : decode cX1_side 145 = .ok (.idiv, 1) := by decide +kernel
theorem eX1_side_145 : dec cX1_side 145 .idiv 1 146 := ⟨dX1_side_145, rfl⟩
theorem dX1_side_146 : decode cX1_side 146 = .ok (.if_icmp .ge 24, 3) := by decide +kernel
theorem eX1_side_146 : dec cX1_side 146 (.if_icmp .ge 24) 3 149 := ⟨dX1_side_146, rfl⟩
theorem dX1_side_149 : decode cX1_side 149 = .ok (.iload 4, 2) := by decide +kernel
theorem eX1_side_149 : dec cX1_side 149 (.iload 4) 2 151 := ⟨dX1_side_149, rfl⟩
theorem dX1_side_151 : decode cX1_side 151 = .ok (.aload_n 0, 1) := by decide +kernel
theorem eX1_side_151 : dec cX1_side 151 (.aload_n 0) 1 152 := ⟨dX1_side_151, rfl⟩
theorem dX1_side_152 : decode cX1_side 152 = .ok (.getfield 39, 3) := by decide +kernel
theorem eX1_side_152 : dec cX1_side 152 (.getfield 39) 3 155 := ⟨dX1_side_152, rfl⟩
theorem dX1_side_155 : decode cX1_side 155 = .ok (.iconst 2, 1) := by decide +kernel
theorem eX1_side_155 : dec cX1_side 155 (.iconst 2) 1 156 := ⟨dX1_side_155, rfl⟩
theorem dX1_side_156 : decode cX1_side 156 = .ok (.idiv, 1) := by decide +kernel
theorem eX1_side_156 : dec cX1_side 156 .idiv 1 157 := ⟨dX1_side_156, rfl⟩
theorem dX1_side_157 : decode cX1_side 157 = .ok (.if_icmp .ge 13, 3) := by decide +kernel
theorem eX1_side_157 : dec cX1_side 157 (.if_icmp .ge 13) 3 160 := ⟨dX1_side_157, rfl⟩
theorem dX1_side_160 : decode cX1_side 160 = .ok (.aload_n 0, 1) := by decide +kernel
theorem eX1_side_160 : dec cX1_side 160 (.aload_n 0) 1 161 := ⟨dX1_side_160, rfl⟩
theorem dX1_side_161 : decode cX1_side 161 = .ok (.iload_n 3, 1) := by decide +kernel
theorem eX1_side_161 : dec cX1_side 161 (.iload_n 3) 1 162 := ⟨dX1_side_161, rfl⟩
theorem dX1_side_162 : decode cX1_side 162 = .ok (.iload 4, 2) := by decide +kernel
theorem eX1_side_162 : dec cX1_side 162 (.iload 4) 2 164 := ⟨dX1_side_162, rfl⟩
theorem dX1_side_164 : decode cX1_side 164 = .ok (.invokevirtual 98, 3) := by decide +kernel
theorem eX1_side_164 : dec cX1_side 164 (.invokevirtual 98) 3 167 := ⟨dX1_side_164, rfl⟩
theorem dX1_side_167 : decode cX1_side 167 = .ok (.goto 6, 3) := by decide +kernel
theorem eX1_side_167 : dec cX1_side 167 (.goto 6) 3 170 := ⟨dX1_side_167, rfl⟩
theorem dX1_side_170 : decode cX1_side 170 = .ok (.sipush 255, 3) := by decide +kernel
theorem eX1_side_170 : dec cX1_side 170 (.sipush 255) 3 173 := ⟨dX1_side_170, rfl⟩
theorem dX1_side_173 : decode cX1_side 173 = .ok (.iastore, 1) := by decide +kernel
theorem eX1_side_173 : dec cX1_side 173 .iastore 1 174 := ⟨dX1_side_173, rfl⟩
theorem dX1_side_174 : decode cX1_side 174 = .ok (.iinc 2 1, 3) := by decide +kernel
theorem eX1_side_174 : dec cX1_side 174 (.iinc 2 1) 3 177 := ⟨dX1_side_174, rfl⟩
theorem dX1_side_177 : decode cX1_side 177 = .ok (.goto (-159), 3) := by decide +kernel
theorem eX1_side_177 : dec cX1_side 177 (.goto (-159)) 3 180 := ⟨dX1_side_177, rfl⟩
theorem dX1_side_180 : decode cX1_side 180 = .ok (.aload_n 0, 1) := by decide +kernel
theorem eX1_side_180 : dec cX1_side 180 (.aload_n 0) 1 181 := ⟨dX1_side_180, rfl⟩
theorem dX1_side_181 : decode cX1_side 181 = .ok (.invokevirtual 89, 3) := by decide +kernel
theorem eX1_side_181 : dec cX1_side 181 (.invokevirtual 89) 3 184 := ⟨dX1_side_181, rfl⟩
theorem dX1_side_184 : decode cX1_side 184 = .ok (.ireturn, 1) := by decide +kernel
theorem eX1_side_184 : dec cX1_side 184 .ireturn 1 185 := ⟨dX1_side_184, rfl⟩
