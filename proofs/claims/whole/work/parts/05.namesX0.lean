set_option maxRecDepth 20000 in
theorem ggX0_init_J7_fill_031fb : GoodIn wsX0_init wsJ7_fill_031fb := goodIn_r _ [29] (by decide +kernel) (by decide +kernel)
set_option maxRecDepth 20000 in
theorem gX0_init_J7_fill_031fb : GoodIn wsX0_init (va_wsS RX0 58 yJ7_fill_031fb wsJ7_fill_031fb) := goodIn_app (goodIn_of _ (by decide +kernel)) ggX0_init_J7_fill_031fb
theorem dX0_init_0 : decode cX0_init 0 = .ok (.aload_n 0, 1) := by decide +kernel
theorem eX0_init_0 : dec cX0_init 0 (.aload_n 0) 1 1 := ⟨dX0_init_0, rfl⟩
theorem dX0_init_1 : decode cX0_init 1 = .ok (.invokespecial 3, 3) := by decide +kernel
theorem eX0_init_1 : dec cX0_init 1 (.invokespecial 3) 3 4 := ⟨dX0_init_1, rfl⟩
theorem dX0_init_4 : decode cX0_init 4 = .ok (.aload_n 0, 1) := by decide +kernel
theorem eX0_init_4 : dec cX0_init 4 (.aload_n 0) 1 5 := ⟨dX0_init_4, rfl⟩
theorem dX0_init_5 : decode cX0_init 5 = .ok (.iconst 1, 1) := by decide +kernel
theorem eX0_init_5 : dec cX0_init 5 (.iconst 1) 1 6 := ⟨dX0_init_5, rfl⟩
theorem dX0_init_6 : decode cX0_init 6 = .ok (.bipush 48, 2) := by decide +kernel
theorem eX0_init_6 : dec cX0_init 6 (.bipush 48) 2 8 := ⟨dX0_init_6, rfl⟩
theorem dX0_init_8 : decode cX0_init 8 = .ok (.iload_n 1, 1) := by decide +kernel
theorem eX0_init_8 : dec cX0_init 8 (.iload_n 1) 1 9 := ⟨dX0_init_8, rfl⟩
theorem dX0_init_9 : decode cX0_init 9 = .ok (.invokestatic 9, 3) := by decide +kernel
theorem eX0_init_9 : dec cX0_init 9 (.invokestatic 9) 3 12 := ⟨dX0_init_9, rfl⟩
theorem dX0_init_12 : decode cX0_init 12 = .ok (.invokestatic 15, 3) := by decide +kernel
theorem eX0_init_12 : dec cX0_init 12 (.invokestatic 15) 3 15 := ⟨dX0_init_12, rfl⟩
theorem dX0_init_15 : decode cX0_init 15 = .ok (.putfield 18, 3) := by decide +kernel
theorem eX0_init_15 : dec cX0_init 15 (.putfield 18) 3 18 := ⟨dX0_init_15, rfl⟩
theorem dX0_init_18 : decode cX0_init 18 = .ok (.aload_n 0, 1) := by decide +kernel
theorem eX0_init_18 : dec cX0_init 18 (.aload_n 0) 1 19 := ⟨dX0_init_18, rfl⟩
theorem dX0_init_19 : decode cX0_init 19 = .ok (.iconst 1, 1) := by decide +kernel
theorem eX0_init_19 : dec cX0_init 19 (.iconst 1) 1 20 := ⟨dX0_init_19, rfl⟩
theorem dX0_init_20 : decode cX0_init 20 = .ok (.bipush 48, 2) := by decide +kernel
theorem eX0_init_20 : dec cX0_init 20 (.bipush 48) 2 22 := ⟨dX0_init_20, rfl⟩
theorem dX0_init_22 : decode cX0_init 22 = .ok (.iload_n 2, 1) := by decide +kernel
theorem eX0_init_22 : dec cX0_init 22 (.iload_n 2) 1 23 := ⟨dX0_init_22, rfl⟩
theorem dX0_init_23 : decode cX0_init 23 = .ok (.invokestatic 9, 3) := by decide +kernel
theorem eX0_init_23 : dec cX0_init 23 (.invokestatic 9) 3 26 := ⟨dX0_init_23, rfl⟩
theorem dX0_init_26 : decode cX0_init 26 = .ok (.invokestatic 15, 3) := by decide +kernel
theorem eX0_init_26 : dec cX0_init 26 (.invokestatic 15) 3 29 := ⟨dX0_init_26, rfl⟩
theorem dX0_init_29 : decode cX0_init 29 = .ok (.putfield 22, 3) := by decide +kernel
theorem eX0_init_29 : dec cX0_init 29 (.putfield 22) 3 32 := ⟨dX0_init_29, rfl⟩
theorem dX0_init_32 : decode cX0_init 32 = .ok (.aload_n 0, 1) := by decide +kernel
theorem eX0_init_32 : dec cX0_init 32 (.aload_n 0) 1 33 := ⟨dX0_init_32, rfl⟩
theorem dX0_init_33 : decode cX0_init 33 = .ok (.getfield 18, 3) := by decide +kernel
theorem eX0_init_33 : dec cX0_init 33 (.getfield 18) 3 36 := ⟨dX0_init_33, rfl⟩
theorem dX0_init_36 : decode cX0_init 36 = .ok (.aload_n 0, 1) := by decide +kernel
theorem eX0_init_36 : dec cX0_init 36 (.aload_n 0) 1 37 := ⟨dX0_init_36, rfl⟩
theorem dX0_init_37 : decode cX0_init 37 = .ok (.getfield 22, 3) := by decide +kernel
theorem eX0_init_37 : dec cX0_init 37 (.getfield 22) 3 40 := ⟨dX0_init_37, rfl⟩
theorem dX0_init_40 : decode cX0_init 40 = .ok (.imul, 1) := by decide +kernel
theorem eX0_init_40 : dec cX0_init 40 .imul 1 41 := ⟨dX0_init_40, rfl⟩
theorem dX0_init_41 : decode cX0_init 41 = .ok (.istore_n 3, 1) := by decide +kernel
theorem eX0_init_41 : dec cX0_init 41 (.istore_n 3) 1 42 := ⟨dX0_init_41, rfl⟩
theorem dX0_init_42 : decode cX0_init 42 = .ok (.aload_n 0, 1) := by decide +kernel
theorem eX0_init_42 : dec cX0_init 42 (.aload_n 0) 1 43 := ⟨dX0_init_42, rfl⟩
theorem dX0_init_43 : decode cX0_init 43 = .ok (.iload_n 3, 1) := by decide +kernel
theorem eX0_init_43 : dec cX0_init 43 (.iload_n 3) 1 44 := ⟨dX0_init_43, rfl⟩
theorem dX0_init_44 : decode cX0_init 44 = .ok (.newarray .byte, 2) := by decide +kernel
theorem eX0_init_44 : dec cX0_init 44 (.newarray .byte) 2 46 := ⟨dX0_init_44, rfl⟩
theorem dX0_init_46 : decode cX0_init 46 = .ok (.putfield 25, 3) := by decide +kernel
theorem eX0_init_46 : dec cX0_init 46 (.putfield 25) 3 49 := ⟨dX0_init_46, rfl⟩
theorem dX0_init_49 : decode cX0_init 49 = .ok (.aload_n 0, 1) := by decide +kernel
theorem eX0_init_49 : dec cX0_init 49 (.aload_n 0) 1 50 := ⟨dX0_init_49, rfl⟩
theorem dX0_init_50 : decode cX0_init 50 = .ok (.iload_n 3, 1) := by decide +kernel
theorem eX0_init_50 : dec cX0_init 50 (.iload_n 3) 1 51 := ⟨dX0_init_50, rfl⟩
theorem dX0_init_51 : decode cX0_init 51 = .ok (.newarray .byte, 2) := by decide +kernel
theorem eX0_init_51 : dec cX0_init 51 (.newarray .byte) 2 53 := ⟨dX0_init_51, rfl⟩
theorem dX0_init_53 : decode cX0_init 53 = .ok (.putfield 29, 3) := by decide +kernel
theorem eX0_init_53 : dec cX0_init 53 (.putfield 29) 3 56 := ⟨dX0_init_53, rfl⟩
theorem dX0_init_56 : decode cX0_init 56 = .ok (.aload_n 0, 1) := by decide +kernel
theorem eX0_init_56 : dec cX0_init 56 (.aload_n 0) 1 57 := ⟨dX0_init_56, rfl⟩
theorem dX0_init_57 : decode cX0_init 57 = .ok (.sipush 257, 3) := by decide +kernel
theorem eX0_init_57 : dec cX0_init 57 (.sipush 257) 3 60 := ⟨dX0_init_57, rfl⟩
theorem dX0_init_60 : decode cX0_init 60 = .ok (.newarray .int, 2) := by decide +kernel
theorem eX0_init_60 : dec cX0_init 60 (.newarray .int) 2 62 := ⟨dX0_init_60, rfl⟩
theorem dX0_init_62 : decode cX0_init 62 = .ok (.putfield 32, 3) := by decide +kernel
theorem eX0_init_62 : dec cX0_init 62 (.putfield 32) 3 65 := ⟨dX0_init_62, rfl⟩
theorem dX0_init_65 : decode cX0_init 65 = .ok (.aload_n 0, 1) := by decide +kernel
theorem eX0_init_65 : dec cX0_init 65 (.aload_n 0) 1 66 := ⟨dX0_init_65, rfl⟩
theorem dX0_init_66 : decode cX0_init 66 = .ok (.sipush 257, 3) := by decide +kernel
theorem eX0_init_66 : dec cX0_init 66 (.sipush 257) 3 69 := ⟨dX0_init_66, rfl⟩
theorem dX0_init_69 : decode cX0_init 69 = .ok (.newarray .int, 2) := by decide +kernel
theorem eX0_init_69 : dec cX0_init 69 (.newarray .int) 2 71 := ⟨dX0_init_69, rfl⟩
theorem dX0_init_71 : decode cX0_init 71 = .ok (.putfield 36, 3) := by decide +kernel
theorem eX0_init_71 : dec cX0_init 71 (.putfield 36) 3 74 := ⟨dX0_init_71, rfl⟩
theorem dX0_init_74 : decode cX0_init 74 = .ok (.aload_n 0, 1) := by decide +kernel
theorem eX0_init_74 : dec cX0_init 74 (.aload_n 0) 1 75 := ⟨dX0_init_74, rfl⟩
theorem dX0_init_75 : decode cX0_init 75 = .ok (.iload_n 3, 1) := by decide +kernel
theorem eX0_init_75 : dec cX0_init 75 (.iload_n 3) 1 76 := ⟨dX0_init_75, rfl⟩
theorem dX0_init_76 : decode cX0_init 76 = .ok (.newarray .boolean, 2) := by decide +kernel
theorem eX0_init_76 : dec cX0_init 76 (.newarray .boolean) 2 78 := ⟨dX0_init_76, rfl⟩
theorem dX0_init_78 : decode cX0_init 78 = .ok (.putfield 39, 3) := by decide +kernel
theorem eX0_init_78 : dec cX0_init 78 (.putfield 39) 3 81 := ⟨dX0_init_78, rfl⟩
theorem dX0_init_81 : decode cX0_init 81 = .ok (.aload_n 0, 1) := by decide +kernel
theorem eX0_init_81 : dec cX0_init 81 (.aload_n 0) 1 82 := ⟨dX0_init_81, rfl⟩
theorem dX0_init_82 : decode cX0_init 82 = .ok (.aload_n 0, 1) := by decide +kernel
theorem eX0_init_82 : dec cX0_init 82 (.aload_n 0) 1 83 := ⟨dX0_init_82, rfl⟩
theorem dX0_init_83 : decode cX0_init 83 = .ok (.getfield 22, 3) := by decide +kernel
theorem eX0_init_83 : dec cX0_init 83 (.getfield 22) 3 86 := ⟨dX0_init_83, rfl⟩
theorem dX0_init_86 : decode cX0_init 86 = .ok (.newarray .int, 2) := by decide +kernel
theorem eX0_init_86 : dec cX0_init 86 (.newarray .int) 2 88 := ⟨dX0_init_86, rfl⟩
theorem dX0_init_88 : decode cX0_init 88 = .ok (.putfield 43, 3) := by decide +kernel
theorem eX0_init_88 : dec cX0_init 88 (.putfield 43) 3 91 := ⟨dX0_init_88, rfl⟩
theorem dX0_init_91 : decode cX0_init 91 = .ok (.aload_n 0, 1) := by decide +kernel
theorem eX0_init_91 : dec cX0_init 91 (.aload_n 0) 1 92 := ⟨dX0_init_91, rfl⟩
theorem dX0_init_92 : decode cX0_init 92 = .ok (.iload_n 3, 1) := by decide +kernel
theorem eX0_init_92 : dec cX0_init 92 (.iload_n 3) 1 93 := ⟨dX0_init_92, rfl⟩
theorem dX0_init_93 : decode cX0_init 93 = .ok (.newarray .int, 2) := by decide +kernel
theorem eX0_init_93 : dec cX0_init 93 (.newarray .int) 2 95 := ⟨dX0_init_93, rfl⟩
theorem dX0_init_95 : decode cX0_init 95 = .ok (.putfield 46, 3) := by decide +kernel
theorem eX0_init_95 : dec cX0_init 95 (.putfield 46) 3 98 := ⟨dX0_init_95, rfl⟩
theorem dX0_init_98 : decode cX0_init 98 = .ok (.aload_n 0, 1) := by decide +kernel
theorem eX0_init_98 : dec cX0_init 98 (.aload_n 0) 1 99 := ⟨dX0_init_98, rfl⟩
theorem dX0_init_99 : decode cX0_init 99 = .ok (.iload_n 3, 1) := by decide +kernel
theorem eX0_init_99 : dec cX0_init 99 (.iload_n 3) 1 100 := ⟨dX0_init_99, rfl⟩
theorem dX0_init_100 : decode cX0_init 100 = .ok (.iconst 3, 1) := by decide +kernel
theorem eX0_init_100 : dec cX0_init 100 (.iconst 3) 1 101 := ⟨dX0_init_100, rfl⟩
theorem dX0_init_101 : decode cX0_init 101 = .ok (.idiv, 1) := by decide +kernel
theorem eX0_init_101 : dec cX0_init 101 .idiv 1 102 := ⟨dX0_init_101, rfl⟩
theorem dX0_init_102 : decode cX0_init 102 = .ok (.bipush 7, 2) := by decide +kernel
theorem eX0_init_102 : dec cX0_init 102 (.bipush 7) 2 104 := ⟨dX0_init_102, rfl⟩
theorem dX0_init_104 : decode cX0_init 104 = .ok (.imul, 1) := by decide +kernel
theorem eX0_init_104 : dec cX0_init 104 .imul 1 105 := ⟨dX0_init_104, rfl⟩
theorem dX0_init_105 : decode cX0_init 105 = .ok (.newarray .int, 2) := by decide +kernel
theorem eX0_init_105 : dec cX0_init 105 (.newarray .int) 2 107 := ⟨dX0_init_105, rfl⟩
theorem dX0_init_107 : decode cX0_init 107 = .ok (.putfield 49, 3) := by decide +kernel
theorem eX0_init_107 : dec cX0_init 107 (.putfield 49) 3 110 := ⟨dX0_init_107, rfl⟩
theorem dX0_init_110 : decode cX0_init 110 = .ok (.aload_n 0, 1) := by decide +kernel
theorem eX0_init_110 : dec cX0_init 110 (.aload_n 0) 1 111 := ⟨dX0_init_110, rfl⟩
theorem dX0_init_111 : decode cX0_init 111 = .ok (.iconst 2, 1) := by decide +kernel
theorem eX0_init_111 : dec cX0_init 111 (.iconst 2) 1 112 := ⟨dX0_init_111, rfl⟩
theorem dX0_init_112 : decode cX0_init 112 = .ok (.iload_n 3, 1) := by decide +kernel
theorem eX0_init_112 : dec cX0_init 112 (.iload_n 3) 1 113 := ⟨dX0_init_112, rfl⟩
theorem dX0_init_113 : decode cX0_init 113 = .ok (.imul, 1) := by decide +kernel
theorem eX0_init_113 : dec cX0_init 113 .imul 1 114 := ⟨dX0_init_113, rfl⟩
theorem dX0_init_114 : decode cX0_init 114 = .ok (.newarray .byte, 2) := by decide +kernel
theorem eX0_init_114 : dec cX0_init 114 (.newarray .byte) 2 116 := ⟨dX0_init_114, rfl⟩
theorem dX0_init_116 : decode cX0_init 116 = .ok (.putfield 52, 3) := by decide +kernel
theorem eX0_init_116 : dec cX0_init 116 (.putfield 52) 3 119 := ⟨dX0_init_116, rfl⟩
theorem dX0_init_119 : decode cX0_init 119 = .ok (.aload_n 0, 1) := by decide +kernel
theorem eX0_init_119 : dec cX0_init 119 (.aload_n 0) 1 120 := ⟨dX0_init_119, rfl⟩
theorem dX0_init_120 : decode cX0_init 120 = .ok (.sipush 5000, 3) := by decide +kernel
theorem eX0_init_120 : dec cX0_init 120 (.sipush 5000) 3 123 := ⟨dX0_init_120, rfl⟩
theorem dX0_init_123 : decode cX0_init 123 = .ok (.newarray .byte, 2) := by decide +kernel
theorem eX0_init_123 : dec cX0_init 123 (.newarray .byte) 2 125 := ⟨dX0_init_123, rfl⟩
theorem dX0_init_125 : decode cX0_init 125 = .ok (.putfield 55, 3) := by decide +kernel
theorem eX0_init_125 : dec cX0_init 125 (.putfield 55) 3 128 := ⟨dX0_init_125, rfl⟩
theorem dX0_init_128 : decode cX0_init 128 = .ok (.aload_n 0, 1) := by decide +kernel
theorem eX0_init_128 : dec cX0_init 128 (.aload_n 0) 1 129 := ⟨dX0_init_128, rfl⟩
theorem dX0_init_129 : decode cX0_init 129 = .ok (.getfield 25, 3) := by decide +kernel
theorem eX0_init_129 : dec cX0_init 129 (.getfield 25) 3 132 := ⟨dX0_init_129, rfl⟩
theorem dX0_init_132 : decode cX0_init 132 = .ok (.iconst (-1), 1) := by decide +kernel
theorem eX0_init_132 : dec cX0_init 132 (.iconst (-1)) 1 133 := ⟨dX0_init_132, rfl⟩
theorem dX0_init_133 : decode cX0_init 133 = .ok (.invokestatic 58, 3) := by decide +kernel
theorem eX0_init_133 : dec cX0_init 133 (.invokestatic 58) 3 136 := ⟨dX0_init_133, rfl⟩
theorem dX0_init_136 : decode cX0_init 136 = .ok (.return_, 1) := by decide +kernel
theorem eX0_init_136 : dec cX0_init 136 .return_ 1 137 := ⟨dX0_init_136, rfl⟩
set_option maxRecDepth 20000 in
theorem ggX0_put_X0_isOnSheet : GoodIn wsX0_put wsX0_isOnSheet := goodIn_r _ [10, 5, 11, 18, 19, 20, 21, 22, 23, 24, 25, 26, 27, 28, 29, 30, 31, 32, 33] (by decide +kernel) (by decide +kernel)
set_option maxRecDepth 20000 in
theorem gX0_put_X0_isOnSheet : GoodIn wsX0_put (wsV RX0 64 RX0 yX0_isOnSheet wsX0_isOnSheet) := goodIn_app (goodIn_of _ (by decide +kernel)) ggX0_put_X0_isOnSheet
theorem dX0_put_0 : decode cX0_put 0 = .ok (.aload_n 0, 1) := by decide +kernel
theorem eX0_put_0 : dec cX0_put 0 (.aload_n 0) 1 1 := ⟨dX0_put_0, rfl⟩
theorem dX0_put_1 : decode cX0_put 1 = .ok (.iload_n 1, 1) := by decide +kernel
theorem eX0_put_1 : dec cX0_put 1 (.iload_n 1) 1 2 := ⟨dX0_put_1, rfl⟩
theorem dX0_put_2 : decode cX0_put 2 = .ok (.iload_n 2, 1) := by decide +kernel
theorem eX0_put_2 : dec cX0_put 2 (.iload_n 2) 1 3 := ⟨dX0_put_2, rfl⟩
theorem dX0_put_3 : decode cX0_put 3 = .ok (.invokevirtual 64, 3) := by decide +kernel
theorem eX0_put_3 : dec cX0_put 3 (.invokevirtual 64) 3 6 := ⟨dX0_put_3, rfl⟩
theorem dX0_put_6 : decode cX0_put 6 = .ok (.ifCond .ne 13, 3) := by decide +kernel
theorem eX0_put_6 : dec cX0_put 6 (.ifCond .ne 13) 3 9 := ⟨dX0_put_6, rfl⟩
theorem dX0_put_9 : decode cX0_put 9 = .ok (.new 68, 3) := by decide +kernel
theorem eX0_put_9 : dec cX0_put 9 (.new 68) 3 12 := ⟨dX0_put_9, rfl⟩
theorem dX0_put_12 : decode cX0_put 12 = .ok (.dup, 1) := by decide +kernel
theorem eX0_put_12 : dec cX0_put 12 .dup 1 13 := ⟨dX0_put_12, rfl⟩
theorem dX0_put_13 : decode cX0_put 13 = .ok (.ldc 70, 2) := by decide +kernel
theorem eX0_put_13 : dec cX0_put 13 (.ldc 70) 2 15 := ⟨dX0_put_13, rfl⟩
theorem dX0_put_15 : decode cX0_put 15 = .ok (.invokespecial 72, 3) := by decide +kernel
theorem eX0_put_15 : dec cX0_put 15 (.invokespecial 72) 3 18 := ⟨dX0_put_15, rfl⟩
theorem dX0_put_18 : decode cX0_put 18 = .ok (.athrow, 1) := by decide +kernel
theorem eX0_put_18 : dec cX0_put 18 .athrow 1 19 := ⟨dX0_put_18, rfl⟩
theorem dX0_put_19 : decode cX0_put 19 = .ok (.aload_n 0, 1) := by decide +kernel
theorem eX0_put_19 : dec cX0_put 19 (.aload_n 0) 1 20 := ⟨dX0_put_19, rfl⟩
theorem dX0_put_20 : decode cX0_put 20 = .ok (.getfield 25, 3) := by decide +kernel
theorem eX0_put_20 : dec cX0_put 20 (.getfield 25) 3 23 := ⟨dX0_put_20, rfl⟩
theorem dX0_put_23 : decode cX0_put 23 = .ok (.iload_n 2, 1) := by decide +kernel
theorem eX0_put_23 : dec cX0_put 23 (.iload_n 2) 1 24 := ⟨dX0_put_23, rfl⟩
theorem dX0_put_24 : decode cX0_put 24 = .ok (.aload_n 0, 1) := by decide +kernel
theorem eX0_put_24 : dec cX0_put 24 (.aload_n 0) 1 25 := ⟨dX0_put_24, rfl⟩
theorem dX0_put_25 : decode cX0_put 25 = .ok (.getfield 18, 3) := by decide +kernel
theorem eX0_put_25 : dec cX0_put 25 (.getfield 18) 3 28 := ⟨dX0_put_25, rfl⟩
theorem dX0_put_28 : decode cX0_put 28 = .ok (.imul, 1) := by decide +kernel
theorem eX0_put_28 : dec cX0_put 28 .imul 1 29 := ⟨dX0_put_28, rfl⟩
theorem dX0_put_29 : decode cX0_put 29 = .ok (.iload_n 1, 1) := by decide +kernel
theorem eX0_put_29 : dec cX0_put 29 (.iload_n 1) 1 30 := ⟨dX0_put_29, rfl⟩
theorem dX0_put_30 : decode cX0_put 30 = .ok (.iadd, 1) := by decide +kernel
theorem eX0_put_30 : dec cX0_put 30 .iadd 1 31 := ⟨dX0_put_30, rfl⟩
theorem dX0_put_31 : decode cX0_put 31 = .ok (.iload_n 3, 1) := by decide +kernel
theorem eX0_put_31 : dec cX0_put 31 (.iload_n 3) 1 32 := ⟨dX0_put_31, rfl⟩
theorem dX0_put_32 : decode cX0_put 32 = .ok (.bastore, 1) := by decide +kernel
theorem eX0_put_32 : dec cX0_put 32 .bastore 1 33 := ⟨dX0_put_32, rfl⟩
theorem dX0_put_33 : decode cX0_put 33 = .ok (.return_, 1) := by decide +kernel
theorem eX0_put_33 : dec cX0_put 33 .return_ 1 34 := ⟨dX0_put_33, rfl⟩
set_option maxRecDepth 20000 in
theorem ggX0_threshold_X0_tallyGreys : GoodIn wsX0_threshold wsX0_tallyGreys := goodIn_r _ [5, 6, 7, 8, 9, 10, 11, 12, 21, 22, 23, 24, 25, 26, 27, 28, 29, 30, 31, 32, 33, 34, 35, 36] (by decide +kernel) (by decide +kernel)
set_option maxRecDepth 20000 in
theorem gX0_threshold_X0_tallyGreys : GoodIn wsX0_threshold (wsV RX0 75 RX0 yX0_tallyGreys wsX0_tallyGreys) := goodIn_app (goodIn_of _ (by decide +kernel)) ggX0_threshold_X0_tallyGreys
set_option maxRecDepth 20000 in
theorem ggX0_threshold_X0_spreadAt : GoodIn wsX0_threshold wsX0_spreadAt := goodIn_r _ [16, 17, 18, 19, 4, 20, 6, 8, 21, 22, 23, 24, 25, 26, 27, 28, 29, 30, 31, 32, 33, 34, 35, 36] (by decide +kernel) (by decide +kernel)
set_option maxRecDepth 20000 in
theorem gX0_threshold_X0_spreadAt : GoodIn wsX0_threshold (wsV RX0 78 RX0 yX0_spreadAt wsX0_spreadAt) := goodIn_app (goodIn_of _ (by decide +kernel)) ggX0_threshold_X0_spreadAt
theorem dX0_threshold_0 : decode cX0_threshold 0 = .ok (.aload_n 0, 1) := by decide +kernel
theorem eX0_threshold_0 : dec cX0_threshold 0 (.aload_n 0) 1 1 := ⟨dX0_threshold_0, rfl⟩
theorem dX0_threshold_1 : decode cX0_threshold 1 = .ok (.invokevirtual 75, 3) := by decide +kernel
theorem eX0_threshold_1 : dec cX0_threshold 1 (.invokevirtual 75) 3 4 := ⟨dX0_threshold_1, rfl⟩
theorem dX0_threshold_4 : decode cX0_threshold 4 = .ok (.iconst 0, 1) := by decide +kernel
theorem eX0_threshold_4 : dec cX0_threshold 4 (.iconst 0) 1 5 := ⟨dX0_threshold_4, rfl⟩
theorem dX0_threshold_5 : decode cX0_threshold 5 = .ok (.istore_n 1, 1) := by decide +kernel
theorem eX0_threshold_5 : dec cX0_threshold 5 (.istore_n 1) 1 6 := ⟨dX0_threshold_5, rfl⟩
theorem dX0_threshold_6 : decode cX0_threshold 6 = .ok (.aload_n 0, 1) := by decide +kernel
theorem eX0_threshold_6 : dec cX0_threshold 6 (.aload_n 0) 1 7 := ⟨dX0_threshold_6, rfl⟩
theorem dX0_threshold_7 : decode cX0_threshold 7 = .ok (.iconst 0, 1) := by decide +kernel
theorem eX0_threshold_7 : dec cX0_threshold 7 (.iconst 0) 1 8 := ⟨dX0_threshold_7, rfl⟩
theorem dX0_threshold_8 : decode cX0_threshold 8 = .ok (.invokevirtual 78, 3) := by decide +kernel
theorem eX0_threshold_8 : dec cX0_threshold 8 (.invokevirtual 78) 3 11 := ⟨dX0_threshold_8, rfl⟩
theorem dX0_threshold_11 : decode cX0_threshold 11 = .ok (.istore_n 2, 1) := by decide +kernel
theorem eX0_threshold_11 : dec cX0_threshold 11 (.istore_n 2) 1 12 := ⟨dX0_threshold_11, rfl⟩
theorem dX0_threshold_12 : decode cX0_threshold 12 = .ok (.iconst 1, 1) := by decide +kernel
theorem eX0_threshold_12 : dec cX0_threshold 12 (.iconst 1) 1 13 := ⟨dX0_threshold_12, rfl⟩
theorem dX0_threshold_13 : decode cX0_threshold 13 = .ok (.istore_n 3, 1) := by decide +kernel
theorem eX0_threshold_13 : dec cX0_threshold 13 (.istore_n 3) 1 14 := ⟨dX0_threshold_13, rfl⟩
theorem dX0_threshold_14 : decode cX0_threshold 14 = .ok (.iload_n 3, 1) := by decide +kernel
theorem eX0_threshold_14 : dec cX0_threshold 14 (.iload_n 3) 1 15 := ⟨dX0_threshold_14, rfl⟩
theorem dX0_threshold_15 : decode cX0_threshold 15 = .ok (.sipush 255, 3) := by decide +kernel
theorem eX0_threshold_15 : dec cX0_threshold 15 (.sipush 255) 3 18 := ⟨dX0_threshold_15, rfl⟩
theorem dX0_threshold_18 : decode cX0_threshold 18 = .ok (.if_icmp .ge 27, 3) := by decide +kernel
theorem eX0_threshold_18 : dec cX0_threshold 18 (.if_icmp .ge 27) 3 21 := ⟨dX0_threshold_18, rfl⟩
theorem dX0_threshold_21 : decode cX0_threshold 21 = .ok (.aload_n 0, 1) := by decide +kernel
theorem eX0_threshold_21 : dec cX0_threshold 21 (.aload_n 0) 1 22 := ⟨dX0_threshold_21, rfl⟩
theorem dX0_threshold_22 : decode cX0_threshold 22 = .ok (.iload_n 3, 1) := by decide +kernel
theorem eX0_threshold_22 : dec cX0_threshold 22 (.iload_n 3) 1 23 := ⟨dX0_threshold_22, rfl⟩
theorem dX0_threshold_23 : decode cX0_threshold 23 = .ok (.invokevirtual 78, 3) := by decide +kernel
theorem eX0_threshold_23 : dec cX0_threshold 23 (.invokevirtual 78) 3 26 := ⟨dX0_threshold_23, rfl⟩
theorem dX0_threshold_26 : decode cX0_threshold 26 = .ok (.istore 4, 2) := by decide +kernel
theorem eX0_threshold_26 : dec cX0_threshold 26 (.istore 4) 2 28 := ⟨dX0_threshold_26, rfl⟩
theorem dX0_threshold_28 : decode cX0_threshold 28 = .ok (.iload 4, 2) := by decide +kernel
theorem eX0_threshold_28 : dec cX0_threshold 28 (.iload 4) 2 30 := ⟨dX0_threshold_28, rfl⟩
theorem dX0_threshold_30 : decode cX0_threshold 30 = .ok (.iload_n 2, 1) := by decide +kernel
theorem eX0_threshold_30 : dec cX0_threshold 30 (.iload_n 2) 1 31 := ⟨dX0_threshold_30, rfl⟩
theorem dX0_threshold_31 : decode cX0_threshold 31 = .ok (.if_icmp .ge 8, 3) := by decide +kernel
theorem eX0_threshold_31 : dec cX0_threshold 31 (.if_icmp .ge 8) 3 34 := ⟨dX0_threshold_31, rfl⟩
theorem dX0_threshold_34 : decode cX0_threshold 34 = .ok (.iload_n 3, 1) := by decide +kernel
theorem eX0_threshold_34 : dec cX0_threshold 34 (.iload_n 3) 1 35 := ⟨dX0_threshold_34, rfl⟩
theorem dX0_threshold_35 : decode cX0_threshold 35 = .ok (.istore_n 1, 1) := by decide +kernel
theorem eX0_threshold_35 : dec cX0_threshold 35 (.istore_n 1) 1 36 := ⟨dX0_threshold_35, rfl⟩
theorem dX0_threshold_36 : decode cX0_threshold 36 = .ok (.iload 4, 2) := by decide +kernel
theorem eX0_threshold_36 : dec cX0_threshold 36 (.iload 4) 2 38 := ⟨dX0_threshold_36, rfl⟩
theorem dX0_threshold_38 : decode cX0_threshold 38 = .ok (.istore_n 2, 1) := by decide +kernel
theorem eX0_threshold_38 : dec cX0_threshold 38 (.istore_n 2) 1 39 := ⟨dX0_threshold_38, rfl⟩
theorem dX0_threshold_39 : decode cX0_threshold 39 = .ok (.iinc 3 1, 3) := by decide +kernel
theorem eX0_threshold_39 : dec cX0_threshold 39 (.iinc 3 1) 3 42 := ⟨dX0_threshold_39, rfl⟩
theorem dX0_threshold_42 : decode cX0_threshold 42 = .ok (.goto (-28), 3) := by decide +kernel
theorem eX0_threshold_42 : dec cX0_threshold 42 (.goto (-28)) 3 45 := ⟨dX0_threshold_42, rfl⟩
theorem dX0_threshold_45 : decode cX0_threshold 45 = .ok (.iload_n 1, 1) := by decide +kernel
theorem eX0_threshold_45 : dec cX0_threshold 45 (.iload_n 1) 1 46 := ⟨dX0_threshold_45, rfl⟩
theorem dX0_threshold_46 : decode cX0_threshold 46 = .ok (.ireturn, 1) := by decide +kernel
theorem eX0_threshold_46 : dec cX0_threshold 46 .ireturn 1 47 := ⟨dX0_threshold_46, rfl⟩
set_option maxRecDepth 20000 in
theorem ggX0_parts_X0_markDark : GoodIn wsX0_parts wsX0_markDark := goodIn_r _ [8, 9, 2, 10, 11, 12, 7, 13, 14, 15, 16, 17, 18, 19, 20, 21, 22, 23, 24, 25, 26, 27, 28, 29, 30, 31, 32, 33, 34, 35, 63, 64, 65, 66, 67, 68, 69, 70, 71, 72, 73, 74, 75, 76, 77, 78] (by decide +kernel) (by decide +kernel)
set_option maxRecDepth 20000 in
theorem gX0_parts_X0_markDark : GoodIn wsX0_parts (wsV RX0 82 RX0 yX0_markDark wsX0_markDark) := goodIn_app (goodIn_of _ (by decide +kernel)) ggX0_parts_X0_markDark
set_option maxRecDepth 20000 in
theorem ggX0_parts_X0_reachPart : GoodIn wsX0_parts wsX0_reachPart := goodIn_r _ [39, 3, 40, 41, 42, 43, 44, 7, 45, 2, 46, 47, 48, 49, 50, 51, 52, 53, 54, 55, 56, 57, 63, 64, 65, 66, 67, 68, 69, 70, 71, 72, 73, 74, 75, 76, 77, 78] (by decide +kernel) (by decide +kernel)
set_option maxRecDepth 20000 in
theorem gX0_parts_X0_reachPart : GoodIn wsX0_parts (wsV RX0 88 RX0 yX0_reachPart wsX0_reachPart) := goodIn_app (goodIn_of _ (by decide +kernel)) ggX0_parts_X0_reachPart
set_option maxRecDepth 20000 in
theorem ggX0_parts_X0_keepPart : GoodIn wsX0_parts wsX0_keepPart := goodIn_r _ [61, 1, 62, 41, 54, 3, 40, 55, 56, 52, 57, 50, 51, 53, 63, 64, 65, 66, 67, 68, 69, 70, 71, 72, 73, 74, 75, 76, 77, 78] (by decide +kernel) (by decide +kernel)
set_option maxRecDepth 20000 in
theorem gX0_parts_X0_keepPart : GoodIn wsX0_parts (wsV RX0 95 RX0 yX0_keepPart wsX0_keepPart) := goodIn_app (goodIn_of _ (by decide +kernel)) ggX0_parts_X0_keepPart
theorem dX0_parts_0 : decode cX0_parts 0 = .ok (.aload_n 0, 1) := by decide +kernel
theorem eX0_parts_0 : dec cX0_parts 0 (.aload_n 0) 1 1 := ⟨dX0_parts_0, rfl⟩
theorem dX0_parts_1 : decode cX0_parts 1 = .ok (.invokevirtual 82, 3) := by decide +kernel
theorem eX0_parts_1 : dec cX0_parts 1 (.invokevirtual 82) 3 4 := ⟨dX0_parts_1, rfl⟩
theorem dX0_parts_4 : decode cX0_parts 4 = .ok (.aload_n 0, 1) := by decide +kernel
theorem eX0_parts_4 : dec cX0_parts 4 (.aload_n 0) 1 5 := ⟨dX0_parts_4, rfl⟩
theorem dX0_parts_5 : decode cX0_parts 5 = .ok (.iconst 0, 1) := by decide +kernel
theorem eX0_parts_5 : dec cX0_parts 5 (.iconst 0) 1 6 := ⟨dX0_parts_5, rfl⟩
theorem dX0_parts_6 : decode cX0_parts 6 = .ok (.putfield 85, 3) := by decide +kernel
theorem eX0_parts_6 : dec cX0_parts 6 (.putfield 85) 3 9 := ⟨dX0_parts_6, rfl⟩
theorem dX0_parts_9 : decode cX0_parts 9 = .ok (.iconst 0, 1) := by decide +kernel
theorem eX0_parts_9 : dec cX0_parts 9 (.iconst 0) 1 10 := ⟨dX0_parts_9, rfl⟩
theorem dX0_parts_10 : decode cX0_parts 10 = .ok (.istore_n 1, 1) := by decide +kernel
theorem eX0_parts_10 : dec cX0_parts 10 (.istore_n 1) 1 11 := ⟨dX0_parts_10, rfl⟩
theorem dX0_parts_11 : decode cX0_parts 11 = .ok (.iload_n 1, 1) := by decide +kernel
theorem eX0_parts_11 : dec cX0_parts 11 (.iload_n 1) 1 12 := ⟨dX0_parts_11, rfl⟩
theorem dX0_parts_12 : decode cX0_parts 12 = .ok (.aload_n 0, 1) := by decide +kernel
theorem eX0_parts_12 : dec cX0_parts 12 (.aload_n 0) 1 13 := ⟨dX0_parts_12, rfl⟩
theorem dX0_parts_13 : decode cX0_parts 13 = .ok (.getfield 39, 3) := by decide +kernel
theorem eX0_parts_13 : dec cX0_parts 13 (.getfield 39) 3 16 := ⟨dX0_parts_13, rfl⟩
theorem dX0_parts_16 : decode cX0_parts 16 = .ok (.arraylength, 1) := by decide +kernel
theorem eX0_parts_16 : dec cX0_parts 16 .arraylength 1 17 := ⟨dX0_parts_16, rfl⟩
theorem dX0_parts_17 : decode cX0_parts 17 = .ok (.if_icmp .ge 35, 3) := by decide +kernel
theorem eX0_parts_17 : dec cX0_parts 17 (.if_icmp .ge 35) 3 20 := ⟨dX0_parts_17, rfl⟩
theorem dX0_parts_20 : decode cX0_parts 20 = .ok (.aload_n 0, 1) := by decide +kernel
theorem eX0_parts_20 : dec cX0_parts 20 (.aload_n 0) 1 21 := ⟨dX0_parts_20, rfl⟩
theorem dX0_parts_21 : decode cX0_parts 21 = .ok (.getfield 39, 3) := by decide +kernel
theorem eX0_parts_21 : dec cX0_parts 21 (.getfield 39) 3 24 := ⟨dX0_parts_21, rfl⟩
theorem dX0_parts_24 : decode cX0_parts 24 = .ok (.iload_n 1, 1) := by decide +kernel
theorem eX0_parts_24 : dec cX0_parts 24 (.iload_n 1) 1 25 := ⟨dX0_parts_24, rfl⟩
theorem dX0_parts_25 : decode cX0_parts 25 = .ok (.baload, 1) := by decide +kernel
theorem eX0_parts_25 : dec cX0_parts 25 .baload 1 26 := ⟨dX0_parts_25, rfl⟩
theorem dX0_parts_26 : decode cX0_parts 26 = .ok (.ifCond .eq 20, 3) := by decide +kernel
theorem eX0_parts_26 : dec cX0_parts 26 (.ifCond .eq 20) 3 29 := ⟨dX0_parts_26, rfl⟩
theorem dX0_parts_29 : decode cX0_parts 29 = .ok (.aload_n 0, 1) := by decide +kernel
theorem eX0_parts_29 : dec cX0_parts 29 (.aload_n 0) 1 30 := ⟨dX0_parts_29, rfl⟩
theorem dX0_parts_30 : decode cX0_parts 30 = .ok (.iload_n 1, 1) := by decide +kernel
theorem eX0_parts_30 : dec cX0_parts 30 (.iload_n 1) 1 31 := ⟨dX0_parts_30, rfl⟩
theorem dX0_parts_31 : decode cX0_parts 31 = .ok (.invokevirtual 88, 3) := by decide +kernel
theorem eX0_parts_31 : dec cX0_parts 31 (.invokevirtual 88) 3 34 := ⟨dX0_parts_31, rfl⟩
theorem dX0_parts_34 : decode cX0_parts 34 = .ok (.aload_n 0, 1) := by decide +kernel
theorem eX0_parts_34 : dec cX0_parts 34 (.aload_n 0) 1 35 := ⟨dX0_parts_34, rfl⟩
theorem dX0_parts_35 : decode cX0_parts 35 = .ok (.getfield 92, 3) := by decide +kernel
theorem eX0_parts_35 : dec cX0_parts 35 (.getfield 92) 3 38 := ⟨dX0_parts_35, rfl⟩
theorem dX0_parts_38 : decode cX0_parts 38 = .ok (.iconst 3, 1) := by decide +kernel
theorem eX0_parts_38 : dec cX0_parts 38 (.iconst 3) 1 39 := ⟨dX0_parts_38, rfl⟩
theorem dX0_parts_39 : decode cX0_parts 39 = .ok (.if_icmp .lt 7, 3) := by decide +kernel
theorem eX0_parts_39 : dec cX0_parts 39 (.if_icmp .lt 7) 3 42 := ⟨dX0_parts_39, rfl⟩
theorem dX0_parts_42 : decode cX0_parts 42 = .ok (.aload_n 0, 1) := by decide +kernel
theorem eX0_parts_42 : dec cX0_parts 42 (.aload_n 0) 1 43 := ⟨dX0_parts_42, rfl⟩
theorem dX0_parts_43 : decode cX0_parts 43 = .ok (.invokevirtual 95, 3) := by decide +kernel
theorem eX0_parts_43 : dec cX0_parts 43 (.invokevirtual 95) 3 46 := ⟨dX0_parts_43, rfl⟩
theorem dX0_parts_46 : decode cX0_parts 46 = .ok (.iinc 1 1, 3) := by decide +kernel
theorem eX0_parts_46 : dec cX0_parts 46 (.iinc 1 1) 3 49 := ⟨dX0_parts_46, rfl⟩
theorem dX0_parts_49 : decode cX0_parts 49 = .ok (.goto (-38), 3) := by decide +kernel
theorem eX0_parts_49 : dec cX0_parts 49 (.goto (-38)) 3 52 := ⟨dX0_parts_49, rfl⟩
theorem dX0_parts_52 : decode cX0_parts 52 = .ok (.aload_n 0, 1) := by decide +kernel
theorem eX0_parts_52 : dec cX0_parts 52 (.aload_n 0) 1 53 := ⟨dX0_parts_52, rfl⟩
theorem dX0_parts_53 : decode cX0_parts 53 = .ok (.getfield 85, 3) := by decide +kernel
theorem eX0_parts_53 : dec cX0_parts 53 (.getfield 85) 3 56 := ⟨dX0_parts_53, rfl⟩
theorem dX0_parts_56 : decode cX0_parts 56 = .ok (.ireturn, 1) := by decide +kernel
theorem eX0_parts_56 : dec cX0_parts 56 .ireturn 1 57 := ⟨dX0_parts_56, rfl⟩
theorem dX0_part_0 : decode cX0_part 0 = .ok (.iload_n 1, 1) := by decide +kernel
theorem eX0_part_0 : dec cX0_part 0 (.iload_n 1) 1 1 := ⟨dX0_part_0, rfl⟩
theorem dX0_part_1 : decode cX0_part 1 = .ok (.ifCond .lt 21, 3) := by decide +kernel
theorem eX0_part_1 : dec cX0_part 1 (.ifCond .lt 21) 3 4 := ⟨dX0_part_1, rfl⟩
theorem dX0_part_4 : decode cX0_part 4 = .ok (.iload_n 1, 1) := by decide +kernel
theorem eX0_part_4 : dec cX0_part 4 (.iload_n 1) 1 5 := ⟨dX0_part_4, rfl⟩
theorem dX0_part_5 : decode cX0_part 5 = .ok (.aload_n 0, 1) := by decide +kernel
theorem eX0_part_5 : dec cX0_part 5 (.aload_n 0) 1 6 := ⟨dX0_part_5, rfl⟩
theorem dX0_part_6 : decode cX0_part 6 = .ok (.getfield 85, 3) := by decide +kernel
theorem eX0_part_6 : dec cX0_part 6 (.getfield 85) 3 9 := ⟨dX0_part_6, rfl⟩
theorem dX0_part_9 : decode cX0_part 9 = .ok (.if_icmp .ge 13, 3) := by decide +kernel
theorem eX0_part_9 : dec cX0_part 9 (.if_icmp .ge 13) 3 12 := ⟨dX0_part_9, rfl⟩
theorem dX0_part_12 : decode cX0_part 12 = .ok (.iload_n 2, 1) := by decide +kernel
theorem eX0_part_12 : dec cX0_part 12 (.iload_n 2) 1 13 := ⟨dX0_part_12, rfl⟩
theorem dX0_part_13 : decode cX0_part 13 = .ok (.ifCond .lt 9, 3) := by decide +kernel
theorem eX0_part_13 : dec cX0_part 13 (.ifCond .lt 9) 3 16 := ⟨dX0_part_13, rfl⟩
theorem dX0_part_16 : decode cX0_part 16 = .ok (.iload_n 2, 1) := by decide +kernel
theorem eX0_part_16 : dec cX0_part 16 (.iload_n 2) 1 17 := ⟨dX0_part_16, rfl⟩
theorem dX0_part_17 : decode cX0_part 17 = .ok (.bipush 7, 2) := by decide +kernel
theorem eX0_part_17 : dec cX0_part 17 (.bipush 7) 2 19 := ⟨dX0_part_17, rfl⟩
theorem dX0_part_19 : decode cX0_part 19 = .ok (.if_icmp .lt 5, 3) := by decide +kernel
theorem eX0_part_19 : dec cX0_part 19 (.if_icmp .lt 5) 3 22 := ⟨dX0_part_19, rfl⟩
theorem dX0_part_22 : decode cX0_part 22 = .ok (.iconst (-1), 1) := by decide +kernel
theorem eX0_part_22 : dec cX0_part 22 (.iconst (-1)) 1 23 := ⟨dX0_part_22, rfl⟩
theorem dX0_part_23 : decode cX0_part 23 = .ok (.ireturn, 1) := by decide +kernel
theorem eX0_part_23 : dec cX0_part 23 .ireturn 1 24 := ⟨dX0_part_23, rfl⟩
theorem dX0_part_24 : decode cX0_part 24 = .ok (.aload_n 0, 1) := by decide +kernel
theorem eX0_part_24 : dec cX0_part 24 (.aload_n 0) 1 25 := ⟨dX0_part_24, rfl⟩
theorem dX0_part_25 : decode cX0_part 25 = .ok (.getfield 49, 3) := by decide +kernel
theorem eX0_part_25 : dec cX0_part 25 (.getfield 49) 3 28 := ⟨dX0_part_25, rfl⟩
theorem dX0_part_28 : decode cX0_part 28 = .ok (.iload_n 1, 1) := by decide +kernel
theorem eX0_part_28 : dec cX0_part 28 (.iload_n 1) 1 29 := ⟨dX0_part_28, rfl⟩
theorem dX0_part_29 : decode cX0_part 29 = .ok (.bipush 7, 2) := by decide +kernel
theorem eX0_part_29 : dec cX0_part 29 (.bipush 7) 2 31 := ⟨dX0_part_29, rfl⟩
theorem dX0_part_31 : decode cX0_part 31 = .ok (.imul, 1) := by decide +kernel
theorem eX0_part_31 : dec cX0_part 31 .imul 1 32 := ⟨dX0_part_31, rfl⟩
theorem dX0_part_32 : decode cX0_part 32 = .ok (.iload_n 2, 1) := by decide +kernel
theorem eX0_part_32 : dec cX0_part 32 (.iload_n 2) 1 33 := ⟨dX0_part_32, rfl⟩
theorem dX0_part_33 : decode cX0_part 33 = .ok (.iadd, 1) := by decide +kernel
theorem eX0_part_33 : dec cX0_part 33 .iadd 1 34 := ⟨dX0_part_33, rfl⟩
theorem dX0_part_34 : decode cX0_part 34 = .ok (.iaload, 1) := by decide +kernel
theorem eX0_part_34 : dec cX0_part 34 .iaload 1 35 := ⟨dX0_part_34, rfl⟩
theorem dX0_part_35 : decode cX0_part 35 = .ok (.ireturn, 1) := by decide +kernel
theorem eX0_part_35 : dec cX0_part 35 .ireturn 1 36 := ⟨dX0_part_35, rfl⟩
set_option maxRecDepth 20000 in
theorem ggX0_skew_X0_markDark : GoodIn wsX0_skew wsX0_markDark := goodIn_r _ [5, 6, 7, 8, 9, 10, 4, 11, 12, 13, 14, 15, 16, 17, 18, 19, 20, 21, 22, 23, 24, 25, 26, 27, 28, 29, 30, 31, 32, 33, 52, 53, 54, 55, 56, 57, 58, 59, 60, 61, 62, 63, 64, 65, 66, 67] (by decide +kernel) (by decide +kernel)
set_option maxRecDepth 20000 in
theorem gX0_skew_X0_markDark : GoodIn wsX0_skew (wsV RX0 82 RX0 yX0_markDark wsX0_markDark) := goodIn_app (goodIn_of _ (by decide +kernel)) ggX0_skew_X0_markDark
set_option maxRecDepth 20000 in
theorem ggX0_skew_X0_sumOfSquares : GoodIn wsX0_skew wsX0_sumOfSquares := goodIn_r _ [37, 38, 39, 40, 7, 18, 19, 20, 21, 41, 42, 43, 4, 44, 45, 46, 47, 48, 49, 50, 51, 52, 53, 54, 55, 56, 57, 58, 59, 60, 61, 62, 63, 64, 65, 66, 67] (by decide +kernel) (by decide +kernel)
set_option maxRecDepth 20000 in
theorem gX0_skew_X0_sumOfSquares : GoodIn wsX0_skew (wsV RX0 98 RX0 yX0_sumOfSquares wsX0_sumOfSquares) := goodIn_app (goodIn_of _ (by decide +kernel)) ggX0_skew_X0_sumOfSquares
theorem dX0_skew_0 : decode cX0_skew 0 = .ok (.aload_n 0, 1) := by decide +kernel
theorem eX0_skew_0 : dec cX0_skew 0 (.aload_n 0) 1 1 := ⟨dX0_skew_0, rfl⟩
theorem dX0_skew_1 : decode cX0_skew 1 = .ok (.invokevirtual 82, 3) := by decide +kernel
theorem eX0_skew_1 : dec cX0_skew 1 (.invokevirtual 82) 3 4 := ⟨dX0_skew_1, rfl⟩
theorem dX0_skew_4 : decode cX0_skew 4 = .ok (.iconst 0, 1) := by decide +kernel
theorem eX0_skew_4 : dec cX0_skew 4 (.iconst 0) 1 5 := ⟨dX0_skew_4, rfl⟩
theorem dX0_skew_5 : decode cX0_skew 5 = .ok (.istore_n 1, 1) := by decide +kernel
theorem eX0_skew_5 : dec cX0_skew 5 (.istore_n 1) 1 6 := ⟨dX0_skew_5, rfl⟩
theorem dX0_skew_6 : decode cX0_skew 6 = .ok (.aload_n 0, 1) := by decide +kernel
theorem eX0_skew_6 : dec cX0_skew 6 (.aload_n 0) 1 7 := ⟨dX0_skew_6, rfl⟩
theorem dX0_skew_7 : decode cX0_skew 7 = .ok (.iconst 0, 1) := by decide +kernel
theorem eX0_skew_7 : dec cX0_skew 7 (.iconst 0) 1 8 := ⟨dX0_skew_7, rfl⟩
theorem dX0_skew_8 : decode cX0_skew 8 = .ok (.invokevirtual 98, 3) := by decide +kernel
theorem eX0_skew_8 : dec cX0_skew 8 (.invokevirtual 98) 3 11 := ⟨dX0_skew_8, rfl⟩
theorem dX0_skew_11 : decode cX0_skew 11 = .ok (.istore_n 2, 1) := by decide +kernel
theorem eX0_skew_11 : dec cX0_skew 11 (.istore_n 2) 1 12 := ⟨dX0_skew_11, rfl⟩
theorem dX0_skew_12 : decode cX0_skew 12 = .ok (.iconst 1, 1) := by decide +kernel
theorem eX0_skew_12 : dec cX0_skew 12 (.iconst 1) 1 13 := ⟨dX0_skew_12, rfl⟩
theorem dX0_skew_13 : decode cX0_skew 13 = .ok (.istore_n 3, 1) := by decide +kernel
theorem eX0_skew_13 : dec cX0_skew 13 (.istore_n 3) 1 14 := ⟨dX0_skew_13, rfl⟩
theorem dX0_skew_14 : decode cX0_skew 14 = .ok (.iload_n 3, 1) := by decide +kernel
theorem eX0_skew_14 : dec cX0_skew 14 (.iload_n 3) 1 15 := ⟨dX0_skew_14, rfl⟩
theorem dX0_skew_15 : decode cX0_skew 15 = .ok (.bipush 8, 2) := by decide +kernel
theorem eX0_skew_15 : dec cX0_skew 15 (.bipush 8) 2 17 := ⟨dX0_skew_15, rfl⟩
theorem dX0_skew_17 : decode cX0_skew 17 = .ok (.if_icmp .gt 47, 3) := by decide +kernel
theorem eX0_skew_17 : dec cX0_skew 17 (.if_icmp .gt 47) 3 20 := ⟨dX0_skew_17, rfl⟩
theorem dX0_skew_20 : decode cX0_skew 20 = .ok (.aload_n 0, 1) := by decide +kernel
theorem eX0_skew_20 : dec cX0_skew 20 (.aload_n 0) 1 21 := ⟨dX0_skew_20, rfl⟩
theorem dX0_skew_21 : decode cX0_skew 21 = .ok (.iload_n 3, 1) := by decide +kernel
theorem eX0_skew_21 : dec cX0_skew 21 (.iload_n 3) 1 22 := ⟨dX0_skew_21, rfl⟩
theorem dX0_skew_22 : decode cX0_skew 22 = .ok (.ineg, 1) := by decide +kernel
theorem eX0_skew_22 : dec cX0_skew 22 .ineg 1 23 := ⟨dX0_skew_22, rfl⟩
theorem dX0_skew_23 : decode cX0_skew 23 = .ok (.invokevirtual 98, 3) := by decide +kernel
theorem eX0_skew_23 : dec cX0_skew 23 (.invokevirtual 98) 3 26 := ⟨dX0_skew_23, rfl⟩
theorem dX0_skew_26 : decode cX0_skew 26 = .ok (.istore 4, 2) := by decide +kernel
theorem eX0_skew_26 : dec cX0_skew 26 (.istore 4) 2 28 := ⟨dX0_skew_26, rfl⟩
theorem dX0_skew_28 : decode cX0_skew 28 = .ok (.iload 4, 2) := by decide +kernel
theorem eX0_skew_28 : dec cX0_skew 28 (.iload 4) 2 30 := ⟨dX0_skew_28, rfl⟩
theorem dX0_skew_30 : decode cX0_skew 30 = .ok (.iload_n 2, 1) := by decide +kernel
theorem eX0_skew_30 : dec cX0_skew 30 (.iload_n 2) 1 31 := ⟨dX0_skew_30, rfl⟩
theorem dX0_skew_31 : decode cX0_skew 31 = .ok (.if_icmp .le 9, 3) := by decide +kernel
theorem eX0_skew_31 : dec cX0_skew 31 (.if_icmp .le 9) 3 34 := ⟨dX0_skew_31, rfl⟩
theorem dX0_skew_34 : decode cX0_skew 34 = .ok (.iload_n 3, 1) := by decide +kernel
theorem eX0_skew_34 : dec cX0_skew 34 (.iload_n 3) 1 35 := ⟨dX0_skew_34, rfl⟩
theorem dX0_skew_35 : decode cX0_skew 35 = .ok (.ineg, 1) := by decide +kernel
theorem eX0_skew_35 : dec cX0_skew 35 .ineg 1 36 := ⟨dX0_skew_35, rfl⟩
theorem dX0_skew_36 : decode cX0_skew 36 = .ok (.istore_n 1, 1) := by decide +kernel
theorem eX0_skew_36 : dec cX0_skew 36 (.istore_n 1) 1 37 := ⟨dX0_skew_36, rfl⟩
theorem dX0_skew_37 : decode cX0_skew 37 = .ok (.iload 4, 2) := by decide +kernel
theorem eX0_skew_37 : dec cX0_skew 37 (.iload 4) 2 39 := ⟨dX0_skew_37, rfl⟩
theorem dX0_skew_39 : decode cX0_skew 39 = .ok (.istore_n 2, 1) := by decide +kernel
theorem eX0_skew_39 : dec cX0_skew 39 (.istore_n 2) 1 40 := ⟨dX0_skew_39, rfl⟩
theorem dX0_skew_40 : decode cX0_skew 40 = .ok (.aload_n 0, 1) := by decide +kernel
theorem eX0_skew_40 : dec cX0_skew 40 (.aload_n 0) 1 41 := ⟨dX0_skew_40, rfl⟩
theorem dX0_skew_41 : decode cX0_skew 41 = .ok (.iload_n 3, 1) := by decide +kernel
theorem eX0_skew_41 : dec cX0_skew 41 (.iload_n 3) 1 42 := ⟨dX0_skew_41, rfl⟩
theorem dX0_skew_42 : decode cX0_skew 42 = .ok (.invokevirtual 98, 3) := by decide +kernel
theorem eX0_skew_42 : dec cX0_skew 42 (.invokevirtual 98) 3 45 := ⟨dX0_skew_42, rfl⟩
theorem dX0_skew_45 : decode cX0_skew 45 = .ok (.istore 5, 2) := by decide +kernel
theorem eX0_skew_45 : dec cX0_skew 45 (.istore 5) 2 47 := ⟨dX0_skew_45, rfl⟩
theorem dX0_skew_47 : decode cX0_skew 47 = .ok (.iload 5, 2) := by decide +kernel
theorem eX0_skew_47 : dec cX0_skew 47 (.iload 5) 2 49 := ⟨dX0_skew_47, rfl⟩
theorem dX0_skew_49 : decode cX0_skew 49 = .ok (.iload_n 2, 1) := by decide +kernel
theorem eX0_skew_49 : dec cX0_skew 49 (.iload_n 2) 1 50 := ⟨dX0_skew_49, rfl⟩
theorem dX0_skew_50 : decode cX0_skew 50 = .ok (.if_icmp .le 8, 3) := by decide +kernel
theorem eX0_skew_50 : dec cX0_skew 50 (.if_icmp .le 8) 3 53 := ⟨dX0_skew_50, rfl⟩
theorem dX0_skew_53 : decode cX0_skew 53 = .ok (.iload_n 3, 1) := by decide +kernel
theorem eX0_skew_53 : dec cX0_skew 53 (.iload_n 3) 1 54 := ⟨dX0_skew_53, rfl⟩
theorem dX0_skew_54 : decode cX0_skew 54 = .ok (.istore_n 1, 1) := by decide +kernel
theorem eX0_skew_54 : dec cX0_skew 54 (.istore_n 1) 1 55 := ⟨dX0_skew_54, rfl⟩
theorem dX0_skew_55 : decode cX0_skew 55 = .ok (.iload 5, 2) := by decide +kernel
theorem eX0_skew_55 : dec cX0_skew 55 (.iload 5) 2 57 := ⟨dX0_skew_55, rfl⟩
theorem dX0_skew_57 : decode cX0_skew 57 = .ok (.istore_n 2, 1) := by decide +kernel
theorem eX0_skew_57 : dec cX0_skew 57 (.istore_n 2) 1 58 := ⟨dX0_skew_57, rfl⟩
theorem dX0_skew_58 : decode cX0_skew 58 = .ok (.iinc 3 1, 3) := by decide +kernel
theorem eX0_skew_58 : dec cX0_skew 58 (.iinc 3 1) 3 61 := ⟨dX0_skew_58, rfl⟩
theorem dX0_skew_61 : decode cX0_skew 61 = .ok (.goto (-47), 3) := by decide +kernel
theorem eX0_skew_61 : dec cX0_skew 61 (.goto (-47)) 3 64 := ⟨dX0_skew_61, rfl⟩
theorem dX0_skew_64 : decode cX0_skew 64 = .ok (.iload_n 1, 1) := by decide +kernel
theorem eX0_skew_64 : dec cX0_skew 64 (.iload_n 1) 1 65 := ⟨dX0_skew_64, rfl⟩
theorem dX0_skew_65 : decode cX0_skew 65 = .ok (.ireturn, 1) := by decide +kernel
theorem eX0_skew_65 : dec cX0_skew 65 .ireturn 1 66 := ⟨dX0_skew_65, rfl⟩
set_option maxRecDepth 20000 in
theorem ggX0_turn_X0_shearAt : GoodIn wsX0_turn wsX0_shearAt := goodIn_r _ [9, 2, 10, 11, 12, 13, 14, 15, 16, 21, 22, 23, 24, 25, 26, 27, 28, 29, 30, 31, 32, 33, 34, 35, 36] (by decide +kernel) (by decide +kernel)
set_option maxRecDepth 20000 in
theorem gX0_turn_X0_shearAt : GoodIn wsX0_turn (wsV RX0 101 RX0 yX0_shearAt wsX0_shearAt) := goodIn_app (goodIn_of _ (by decide +kernel)) ggX0_turn_X0_shearAt
set_option maxRecDepth 20000 in
theorem ggX0_turn_X0_takeSpare : GoodIn wsX0_turn wsX0_takeSpare := goodIn_r _ [20, 4, 3, 21, 22, 23, 24, 25, 26, 27, 28, 29, 30, 31, 32, 33, 34, 35, 36] (by decide +kernel) (by decide +kernel)
set_option maxRecDepth 20000 in
theorem gX0_turn_X0_takeSpare : GoodIn wsX0_turn (wsV RX0 104 RX0 yX0_takeSpare wsX0_takeSpare) := goodIn_app (goodIn_of _ (by decide +kernel)) ggX0_turn_X0_takeSpare
theorem dX0_turn_0 : decode cX0_turn 0 = .ok (.iload_n 1, 1) := by decide +kernel
theorem eX0_turn_0 : dec cX0_turn 0 (.iload_n 1) 1 1 := ⟨dX0_turn_0, rfl⟩
theorem dX0_turn_1 : decode cX0_turn 1 = .ok (.bipush (-100), 2) := by decide +kernel
theorem eX0_turn_1 : dec cX0_turn 1 (.bipush (-100)) 2 3 := ⟨dX0_turn_1, rfl⟩
theorem dX0_turn_3 : decode cX0_turn 3 = .ok (.if_icmp .lt 9, 3) := by decide +kernel
theorem eX0_turn_3 : dec cX0_turn 3 (.if_icmp .lt 9) 3 6 := ⟨dX0_turn_3, rfl⟩
theorem dX0_turn_6 : decode cX0_turn 6 = .ok (.iload_n 1, 1) := by decide +kernel
theorem eX0_turn_6 : dec cX0_turn 6 (.iload_n 1) 1 7 := ⟨dX0_turn_6, rfl⟩
theorem dX0_turn_7 : decode cX0_turn 7 = .ok (.bipush 100, 2) := by decide +kernel
theorem eX0_turn_7 : dec cX0_turn 7 (.bipush 100) 2 9 := ⟨dX0_turn_7, rfl⟩
theorem dX0_turn_9 : decode cX0_turn 9 = .ok (.if_icmp .le 5, 3) := by decide +kernel
theorem eX0_turn_9 : dec cX0_turn 9 (.if_icmp .le 5) 3 12 := ⟨dX0_turn_9, rfl⟩
theorem dX0_turn_12 : decode cX0_turn 12 = .ok (.iconst (-1), 1) := by decide +kernel
theorem eX0_turn_12 : dec cX0_turn 12 (.iconst (-1)) 1 13 := ⟨dX0_turn_12, rfl⟩
theorem dX0_turn_13 : decode cX0_turn 13 = .ok (.ireturn, 1) := by decide +kernel
theorem eX0_turn_13 : dec cX0_turn 13 .ireturn 1 14 := ⟨dX0_turn_13, rfl⟩
theorem dX0_turn_14 : decode cX0_turn 14 = .ok (.iconst 0, 1) := by decide +kernel
theorem eX0_turn_14 : dec cX0_turn 14 (.iconst 0) 1 15 := ⟨dX0_turn_14, rfl⟩
theorem dX0_turn_15 : decode cX0_turn 15 = .ok (.istore_n 2, 1) := by decide +kernel
theorem eX0_turn_15 : dec cX0_turn 15 (.istore_n 2) 1 16 := ⟨dX0_turn_15, rfl⟩
theorem dX0_turn_16 : decode cX0_turn 16 = .ok (.iload_n 2, 1) := by decide +kernel
theorem eX0_turn_16 : dec cX0_turn 16 (.iload_n 2) 1 17 := ⟨dX0_turn_16, rfl⟩
theorem dX0_turn_17 : decode cX0_turn 17 = .ok (.aload_n 0, 1) := by decide +kernel
theorem eX0_turn_17 : dec cX0_turn 17 (.aload_n 0) 1 18 := ⟨dX0_turn_17, rfl⟩
theorem dX0_turn_18 : decode cX0_turn 18 = .ok (.getfield 18, 3) := by decide +kernel
theorem eX0_turn_18 : dec cX0_turn 18 (.getfield 18) 3 21 := ⟨dX0_turn_18, rfl⟩
theorem dX0_turn_21 : decode cX0_turn 21 = .ok (.if_icmp .ge 69, 3) := by decide +kernel
theorem eX0_turn_21 : dec cX0_turn 21 (.if_icmp .ge 69) 3 24 := ⟨dX0_turn_21, rfl⟩
theorem dX0_turn_24 : decode cX0_turn 24 = .ok (.aload_n 0, 1) := by decide +kernel
theorem eX0_turn_24 : dec cX0_turn 24 (.aload_n 0) 1 25 := ⟨dX0_turn_24, rfl⟩
theorem dX0_turn_25 : decode cX0_turn 25 = .ok (.iload_n 2, 1) := by decide +kernel
theorem eX0_turn_25 : dec cX0_turn 25 (.iload_n 2) 1 26 := ⟨dX0_turn_25, rfl⟩
theorem dX0_turn_26 : decode cX0_turn 26 = .ok (.iload_n 1, 1) := by decide +kernel
theorem eX0_turn_26 : dec cX0_turn 26 (.iload_n 1) 1 27 := ⟨dX0_turn_26, rfl⟩
theorem dX0_turn_27 : decode cX0_turn 27 = .ok (.invokevirtual 101, 3) := by decide +kernel
theorem eX0_turn_27 : dec cX0_turn 27 (.invokevirtual 101) 3 30 := ⟨dX0_turn_27, rfl⟩
theorem dX0_turn_30 : decode cX0_turn 30 = .ok (.istore_n 3, 1) := by decide +kernel
theorem eX0_turn_30 : dec cX0_turn 30 (.istore_n 3) 1 31 := ⟨dX0_turn_30, rfl⟩
theorem dX0_turn_31 : decode cX0_turn 31 = .ok (.iconst 0, 1) := by decide +kernel
theorem eX0_turn_31 : dec cX0_turn 31 (.iconst 0) 1 32 := ⟨dX0_turn_31, rfl⟩
theorem dX0_turn_32 : decode cX0_turn 32 = .ok (.istore 4, 2) := by decide +kernel
theorem eX0_turn_32 : dec cX0_turn 32 (.istore 4) 2 34 := ⟨dX0_turn_32, rfl⟩
theorem dX0_turn_34 : decode cX0_turn 34 = .ok (.iload 4, 2) := by decide +kernel
theorem eX0_turn_34 : dec cX0_turn 34 (.iload 4) 2 36 := ⟨dX0_turn_34, rfl⟩
theorem dX0_turn_36 : decode cX0_turn 36 = .ok (.aload_n 0, 1) := by decide +kernel
theorem eX0_turn_36 : dec cX0_turn 36 (.aload_n 0) 1 37 := ⟨dX0_turn_36, rfl⟩
theorem dX0_turn_37 : decode cX0_turn 37 = .ok (.getfield 22, 3) := by decide +kernel
theorem eX0_turn_37 : dec cX0_turn 37 (.getfield 22) 3 40 := ⟨dX0_turn_37, rfl⟩
theorem dX0_turn_40 : decode cX0_turn 40 = .ok (.if_icmp .ge 44, 3) := by decide +kernel
theorem eX0_turn_40 : dec cX0_turn 40 (.if_icmp .ge 44) 3 43 := ⟨dX0_turn_40, rfl⟩
theorem dX0_turn_43 : decode cX0_turn 43 = .ok (.aload_n 0, 1) := by decide +kernel
theorem eX0_turn_43 : dec cX0_turn 43 (.aload_n 0) 1 44 := ⟨dX0_turn_43, rfl⟩
theorem dX0_turn_44 : decode cX0_turn 44 = .ok (.getfield 29, 3) := by decide +kernel
theorem eX0_turn_44 : dec cX0_turn 44 (.getfield 29) 3 47 := ⟨dX0_turn_44, rfl⟩
theorem dX0_turn_47 : decode cX0_turn 47 = .ok (.iload 4, 2) := by decide +kernel
theorem eX0_turn_47 : dec cX0_turn 47 (.iload 4) 2 49 := ⟨dX0_turn_47, rfl⟩
theorem dX0_turn_49 : decode cX0_turn 49 = .ok (.iload_n 3, 1) := by decide +kernel
theorem eX0_turn_49 : dec cX0_turn 49 (.iload_n 3) 1 50 := ⟨dX0_turn_49, rfl⟩
theorem dX0_turn_50 : decode cX0_turn 50 = .ok (.iadd, 1) := by decide +kernel
theorem eX0_turn_50 : dec cX0_turn 50 .iadd 1 51 := ⟨dX0_turn_50, rfl⟩
theorem dX0_turn_51 : decode cX0_turn 51 = .ok (.aload_n 0, 1) := by decide +kernel
theorem eX0_turn_51 : dec cX0_turn 51 (.aload_n 0) 1 52 := ⟨dX0_turn_51, rfl⟩
theorem dX0_turn_52 : decode cX0_turn 52 = .ok (.getfield 22, 3) := by decide +kernel
theorem eX0_turn_52 : dec cX0_turn 52 (.getfield 22) 3 55 := ⟨dX0_turn_52, rfl⟩
theorem dX0_turn_55 : decode cX0_turn 55 = .ok (.irem, 1) := by decide +kernel
theorem eX0_turn_55 : dec cX0_turn 55 .irem 1 56 := ⟨dX0_turn_55, rfl⟩
theorem dX0_turn_56 : decode cX0_turn 56 = .ok (.aload_n 0, 1) := by decide +kernel
theorem eX0_turn_56 : dec cX0_turn 56 (.aload_n 0) 1 57 := ⟨dX0_turn_56, rfl⟩
theorem dX0_turn_57 : decode cX0_turn 57 = .ok (.getfield 18, 3) := by decide +kernel
theorem eX0_turn_57 : dec cX0_turn 57 (.getfield 18) 3 60 := ⟨dX0_turn_57, rfl⟩
theorem dX0_turn_60 : decode cX0_turn 60 = .ok (.imul, 1) := by decide +kernel
theorem eX0_turn_60 : dec cX0_turn 60 .imul 1 61 := ⟨dX0_turn_60, rfl⟩
theorem dX0_turn_61 : decode cX0_turn 61 = .ok (.iload_n 2, 1) := by decide +kernel
theorem eX0_turn_61 : dec cX0_turn 61 (.iload_n 2) 1 62 := ⟨dX0_turn_61, rfl⟩
theorem dX0_turn_62 : decode cX0_turn 62 = .ok (.iadd, 1) := by decide +kernel
theorem eX0_turn_62 : dec cX0_turn 62 .iadd 1 63 := ⟨dX0_turn_62, rfl⟩
theorem dX0_turn_63 : decode cX0_turn 63 = .ok (.aload_n 0, 1) := by decide +kernel
theorem eX0_turn_63 : dec cX0_turn 63 (.aload_n 0) 1 64 := ⟨dX0_turn_63, rfl⟩
theorem dX0_turn_64 : decode cX0_turn 64 = .ok (.getfield 25, 3) := by decide +kernel
theorem eX0_turn_64 : dec cX0_turn 64 (.getfield 25) 3 67 := ⟨dX0_turn_64, rfl⟩
theorem dX0_turn_67 : decode cX0_turn 67 = .ok (.iload 4, 2) := by decide +kernel
theorem eX0_turn_67 : dec cX0_turn 67 (.iload 4) 2 69 := ⟨dX0_turn_67, rfl⟩
theorem dX0_turn_69 : decode cX0_turn 69 = .ok (.aload_n 0, 1) := by decide +kernel
theorem eX0_turn_69 : dec cX0_turn 69 (.aload_n 0) 1 70 := ⟨dX0_turn_69, rfl⟩
theorem dX0_turn_70 : decode cX0_turn 70 = .ok (.getfield 18, 3) := by decide +kernel
theorem eX0_turn_70 : dec cX0_turn 70 (.getfield 18) 3 73 := ⟨dX0_turn_70, rfl⟩
theorem dX0_turn_73 : decode cX0_turn 73 = .ok (.imul, 1) := by decide +kernel
theorem eX0_turn_73 : dec cX0_turn 73 .imul 1 74 := ⟨dX0_turn_73, rfl⟩
theorem dX0_turn_74 : decode cX0_turn 74 = .ok (.iload_n 2, 1) := by decide +kernel
theorem eX0_turn_74 : dec cX0_turn 74 (.iload_n 2) 1 75 := ⟨dX0_turn_74, rfl⟩
theorem dX0_turn_75 : decode cX0_turn 75 = .ok (.iadd, 1) := by decide +kernel
theorem eX0_turn_75 : dec cX0_turn 75 .iadd 1 76 := ⟨dX0_turn_75, rfl⟩
theorem dX0_turn_76 : decode cX0_turn 76 = .ok (.baload, 1) := by decide +kernel
theorem eX0_turn_76 : dec cX0_turn 76 .baload 1 77 := ⟨dX0_turn_76, rfl⟩
theorem dX0_turn_77 : decode cX0_turn 77 = .ok (.bastore, 1) := by decide +kernel
theorem eX0_turn_77 : dec cX0_turn 77 .bastore 1 78 := ⟨dX0_turn_77, rfl⟩
theorem dX0_turn_78 : decode cX0_turn 78 = .ok (.iinc 4 1, 3) := by decide +kernel
theorem eX0_turn_78 : dec cX0_turn 78 (.iinc 4 1) 3 81 := ⟨dX0_turn_78, rfl⟩
theorem dX0_turn_81 : decode cX0_turn 81 = .ok (.goto (-47), 3) := by decide +kernel
theorem eX0_turn_81 : dec cX0_turn 81 (.goto (-47)) 3 84 := ⟨dX0_turn_81, rfl⟩
theorem dX0_turn_84 : decode cX0_turn 84 = .ok (.iinc 2 1, 3) := by decide +kernel
theorem eX0_turn_84 : dec cX0_turn 84 (.iinc 2 1) 3 87 := ⟨dX0_turn_84, rfl⟩
theorem dX0_turn_87 : decode cX0_turn 87 = .ok (.goto (-71), 3) := by decide +kernel
theorem eX0_turn_87 : dec cX0_turn 87 (.goto (-71)) 3 90 := ⟨dX0_turn_87, rfl⟩
theorem dX0_turn_90 : decode cX0_turn 90 = .ok (.aload_n 0, 1) := by decide +kernel
theorem eX0_turn_90 : dec cX0_turn 90 (.aload_n 0) 1 91 := ⟨dX0_turn_90, rfl⟩
theorem dX0_turn_91 : decode cX0_turn 91 = .ok (.invokevirtual 104, 3) := by decide +kernel
theorem eX0_turn_91 : dec cX0_turn 91 (.invokevirtual 104) 3 94 := ⟨dX0_turn_91, rfl⟩
theorem dX0_turn_94 : decode cX0_turn 94 = .ok (.ireturn, 1) := by decide +kernel
theorem eX0_turn_94 : dec cX0_turn 94 .ireturn 1 95 := ⟨dX0_turn_94, rfl⟩
set_option maxRecDepth 20000 in
theorem ggX0_pack_X0_packStretch : GoodIn wsX0_pack wsX0_packStretch := goodIn_r _ [7, 1, 8, 9, 10, 11, 12, 13, 14, 15, 16, 17, 18, 19, 20, 21, 22, 23, 24] (by decide +kernel) (by decide +kernel)
set_option maxRecDepth 20000 in
theorem gX0_pack_X0_packStretch : GoodIn wsX0_pack (wsV RX0 111 RX0 yX0_packStretch wsX0_packStretch) := goodIn_app (goodIn_of _ (by decide +kernel)) ggX0_pack_X0_packStretch
theorem dX0_pack_0 : decode cX0_pack 0 = .ok (.aload_n 0, 1) := by decide +kernel
theorem eX0_pack_0 : dec cX0_pack 0 (.aload_n 0) 1 1 := ⟨dX0_pack_0, rfl⟩
theorem dX0_pack_1 : decode cX0_pack 1 = .ok (.iconst 0, 1) := by decide +kernel
theorem eX0_pack_1 : dec cX0_pack 1 (.iconst 0) 1 2 := ⟨dX0_pack_1, rfl⟩
theorem dX0_pack_2 : decode cX0_pack 2 = .ok (.putfield 108, 3) := by decide +kernel
theorem eX0_pack_2 : dec cX0_pack 2 (.putfield 108) 3 5 := ⟨dX0_pack_2, rfl⟩
theorem dX0_pack_5 : decode cX0_pack 5 = .ok (.iconst 0, 1) := by decide +kernel
theorem eX0_pack_5 : dec cX0_pack 5 (.iconst 0) 1 6 := ⟨dX0_pack_5, rfl⟩
theorem dX0_pack_6 : decode cX0_pack 6 = .ok (.istore_n 1, 1) := by decide +kernel
theorem eX0_pack_6 : dec cX0_pack 6 (.istore_n 1) 1 7 := ⟨dX0_pack_6, rfl⟩
theorem dX0_pack_7 : decode cX0_pack 7 = .ok (.iconst 1, 1) := by decide +kernel
theorem eX0_pack_7 : dec cX0_pack 7 (.iconst 1) 1 8 := ⟨dX0_pack_7, rfl⟩
theorem dX0_pack_8 : decode cX0_pack 8 = .ok (.istore_n 2, 1) := by decide +kernel
theorem eX0_pack_8 : dec cX0_pack 8 (.istore_n 2) 1 9 := ⟨dX0_pack_8, rfl⟩
theorem dX0_pack_9 : decode cX0_pack 9 = .ok (.iload_n 2, 1) := by decide +kernel
theorem eX0_pack_9 : dec cX0_pack 9 (.iload_n 2) 1 10 := ⟨dX0_pack_9, rfl⟩
theorem dX0_pack_10 : decode cX0_pack 10 = .ok (.aload_n 0, 1) := by decide +kernel
theorem eX0_pack_10 : dec cX0_pack 10 (.aload_n 0) 1 11 := ⟨dX0_pack_10, rfl⟩
theorem dX0_pack_11 : decode cX0_pack 11 = .ok (.getfield 25, 3) := by decide +kernel
theorem eX0_pack_11 : dec cX0_pack 11 (.getfield 25) 3 14 := ⟨dX0_pack_11, rfl⟩
theorem dX0_pack_14 : decode cX0_pack 14 = .ok (.arraylength, 1) := by decide +kernel
theorem eX0_pack_14 : dec cX0_pack 14 .arraylength 1 15 := ⟨dX0_pack_14, rfl⟩
theorem dX0_pack_15 : decode cX0_pack 15 = .ok (.if_icmp .gt 57, 3) := by decide +kernel
theorem eX0_pack_15 : dec cX0_pack 15 (.if_icmp .gt 57) 3 18 := ⟨dX0_pack_15, rfl⟩
theorem dX0_pack_18 : decode cX0_pack 18 = .ok (.iload_n 2, 1) := by decide +kernel
theorem eX0_pack_18 : dec cX0_pack 18 (.iload_n 2) 1 19 := ⟨dX0_pack_18, rfl⟩
theorem dX0_pack_19 : decode cX0_pack 19 = .ok (.aload_n 0, 1) := by decide +kernel
theorem eX0_pack_19 : dec cX0_pack 19 (.aload_n 0) 1 20 := ⟨dX0_pack_19, rfl⟩
theorem dX0_pack_20 : decode cX0_pack 20 = .ok (.getfield 25, 3) := by decide +kernel
theorem eX0_pack_20 : dec cX0_pack 20 (.getfield 25) 3 23 := ⟨dX0_pack_20, rfl⟩
theorem dX0_pack_23 : decode cX0_pack 23 = .ok (.arraylength, 1) := by decide +kernel
theorem eX0_pack_23 : dec cX0_pack 23 .arraylength 1 24 := ⟨dX0_pack_23, rfl⟩
theorem dX0_pack_24 : decode cX0_pack 24 = .ok (.if_icmp .eq 27, 3) := by decide +kernel
theorem eX0_pack_24 : dec cX0_pack 24 (.if_icmp .eq 27) 3 27 := ⟨dX0_pack_24, rfl⟩
theorem dX0_pack_27 : decode cX0_pack 27 = .ok (.iload_n 2, 1) := by decide +kernel
theorem eX0_pack_27 : dec cX0_pack 27 (.iload_n 2) 1 28 := ⟨dX0_pack_27, rfl⟩
theorem dX0_pack_28 : decode cX0_pack 28 = .ok (.iload_n 1, 1) := by decide +kernel
theorem eX0_pack_28 : dec cX0_pack 28 (.iload_n 1) 1 29 := ⟨dX0_pack_28, rfl⟩
theorem dX0_pack_29 : decode cX0_pack 29 = .ok (.isub, 1) := by decide +kernel
theorem eX0_pack_29 : dec cX0_pack 29 .isub 1 30 := ⟨dX0_pack_29, rfl⟩
theorem dX0_pack_30 : decode cX0_pack 30 = .ok (.sipush 255, 3) := by decide +kernel
theorem eX0_pack_30 : dec cX0_pack 30 (.sipush 255) 3 33 := ⟨dX0_pack_30, rfl⟩
theorem dX0_pack_33 : decode cX0_pack 33 = .ok (.if_icmp .eq 18, 3) := by decide +kernel
theorem eX0_pack_33 : dec cX0_pack 33 (.if_icmp .eq 18) 3 36 := ⟨dX0_pack_33, rfl⟩
theorem dX0_pack_36 : decode cX0_pack 36 = .ok (.aload_n 0, 1) := by decide +kernel
theorem eX0_pack_36 : dec cX0_pack 36 (.aload_n 0) 1 37 := ⟨dX0_pack_36, rfl⟩
theorem dX0_pack_37 : decode cX0_pack 37 = .ok (.getfield 25, 3) := by decide +kernel
theorem eX0_pack_37 : dec cX0_pack 37 (.getfield 25) 3 40 := ⟨dX0_pack_37, rfl⟩
theorem dX0_pack_40 : decode cX0_pack 40 = .ok (.iload_n 2, 1) := by decide +kernel
theorem eX0_pack_40 : dec cX0_pack 40 (.iload_n 2) 1 41 := ⟨dX0_pack_40, rfl⟩
theorem dX0_pack_41 : decode cX0_pack 41 = .ok (.baload, 1) := by decide +kernel
theorem eX0_pack_41 : dec cX0_pack 41 .baload 1 42 := ⟨dX0_pack_41, rfl⟩
theorem dX0_pack_42 : decode cX0_pack 42 = .ok (.aload_n 0, 1) := by decide +kernel
theorem eX0_pack_42 : dec cX0_pack 42 (.aload_n 0) 1 43 := ⟨dX0_pack_42, rfl⟩
theorem dX0_pack_43 : decode cX0_pack 43 = .ok (.getfield 25, 3) := by decide +kernel
theorem eX0_pack_43 : dec cX0_pack 43 (.getfield 25) 3 46 := ⟨dX0_pack_43, rfl⟩
theorem dX0_pack_46 : decode cX0_pack 46 = .ok (.iload_n 1, 1) := by decide +kernel
theorem eX0_pack_46 : dec cX0_pack 46 (.iload_n 1) 1 47 := ⟨dX0_pack_46, rfl⟩
theorem dX0_pack_47 : decode cX0_pack 47 = .ok (.baload, 1) := by decide +kernel
theorem eX0_pack_47 : dec cX0_pack 47 .baload 1 48 := ⟨dX0_pack_47, rfl⟩
theorem dX0_pack_48 : decode cX0_pack 48 = .ok (.if_icmp .eq 18, 3) := by decide +kernel
theorem eX0_pack_48 : dec cX0_pack 48 (.if_icmp .eq 18) 3 51 := ⟨dX0_pack_48, rfl⟩
theorem dX0_pack_51 : decode cX0_pack 51 = .ok (.aload_n 0, 1) := by decide +kernel
theorem eX0_pack_51 : dec cX0_pack 51 (.aload_n 0) 1 52 := ⟨dX0_pack_51, rfl⟩
theorem dX0_pack_52 : decode cX0_pack 52 = .ok (.iload_n 2, 1) := by decide +kernel
theorem eX0_pack_52 : dec cX0_pack 52 (.iload_n 2) 1 53 := ⟨dX0_pack_52, rfl⟩
theorem dX0_pack_53 : decode cX0_pack 53 = .ok (.iload_n 1, 1) := by decide +kernel
theorem eX0_pack_53 : dec cX0_pack 53 (.iload_n 1) 1 54 := ⟨dX0_pack_53, rfl⟩
theorem dX0_pack_54 : decode cX0_pack 54 = .ok (.isub, 1) := by decide +kernel
theorem eX0_pack_54 : dec cX0_pack 54 .isub 1 55 := ⟨dX0_pack_54, rfl⟩
theorem dX0_pack_55 : decode cX0_pack 55 = .ok (.aload_n 0, 1) := by decide +kernel
theorem eX0_pack_55 : dec cX0_pack 55 (.aload_n 0) 1 56 := ⟨dX0_pack_55, rfl⟩
theorem dX0_pack_56 : decode cX0_pack 56 = .ok (.getfield 25, 3) := by decide +kernel
theorem eX0_pack_56 : dec cX0_pack 56 (.getfield 25) 3 59 := ⟨dX0_pack_56, rfl⟩
theorem dX0_pack_59 : decode cX0_pack 59 = .ok (.iload_n 1, 1) := by decide +kernel
theorem eX0_pack_59 : dec cX0_pack 59 (.iload_n 1) 1 60 := ⟨dX0_pack_59, rfl⟩
theorem dX0_pack_60 : decode cX0_pack 60 = .ok (.baload, 1) := by decide +kernel
theorem eX0_pack_60 : dec cX0_pack 60 .baload 1 61 := ⟨dX0_pack_60, rfl⟩
theorem dX0_pack_61 : decode cX0_pack 61 = .ok (.invokevirtual 111, 3) := by decide +kernel
theorem eX0_pack_61 : dec cX0_pack 61 (.invokevirtual 111) 3 64 := ⟨dX0_pack_61, rfl⟩
theorem dX0_pack_64 : decode cX0_pack 64 = .ok (.iload_n 2, 1) := by decide +kernel
theorem eX0_pack_64 : dec cX0_pack 64 (.iload_n 2) 1 65 := ⟨dX0_pack_64, rfl⟩
theorem dX0_pack_65 : decode cX0_pack 65 = .ok (.istore_n 1, 1) := by decide +kernel
theorem eX0_pack_65 : dec cX0_pack 65 (.istore_n 1) 1 66 := ⟨dX0_pack_65, rfl⟩
theorem dX0_pack_66 : decode cX0_pack 66 = .ok (.iinc 2 1, 3) := by decide +kernel
theorem eX0_pack_66 : dec cX0_pack 66 (.iinc 2 1) 3 69 := ⟨dX0_pack_66, rfl⟩
theorem dX0_pack_69 : decode cX0_pack 69 = .ok (.goto (-60), 3) := by decide +kernel
theorem eX0_pack_69 : dec cX0_pack 69 (.goto (-60)) 3 72 := ⟨dX0_pack_69, rfl⟩
theorem dX0_pack_72 : decode cX0_pack 72 = .ok (.aload_n 0, 1) := by decide +kernel
theorem eX0_pack_72 : dec cX0_pack 72 (.aload_n 0) 1 73 := ⟨dX0_pack_72, rfl⟩
theorem dX0_pack_73 : decode cX0_pack 73 = .ok (.getfield 108, 3) := by decide +kernel
theorem eX0_pack_73 : dec cX0_pack 73 (.getfield 108) 3 76 := ⟨dX0_pack_73, rfl⟩
theorem dX0_pack_76 : decode cX0_pack 76 = .ok (.ireturn, 1) := by decide +kernel
theorem eX0_pack_76 : dec cX0_pack 76 .ireturn 1 77 := ⟨dX0_pack_76, rfl⟩
theorem dX0_octet_0 : decode cX0_octet 0 = .ok (.iload_n 1, 1) := by decide +kernel
theorem eX0_octet_0 : dec cX0_octet 0 (.iload_n 1) 1 1 := ⟨dX0_octet_0, rfl⟩
theorem dX0_octet_1 : decode cX0_octet 1 = .ok (.ifCond .lt 11, 3) := by decide +kernel
theorem eX0_octet_1 : dec cX0_octet 1 (.ifCond .lt 11) 3 4 := ⟨dX0_octet_1, rfl⟩
theorem dX0_octet_4 : decode cX0_octet 4 = .ok (.iload_n 1, 1) := by decide +kernel
theorem eX0_octet_4 : dec cX0_octet 4 (.iload_n 1) 1 5 := ⟨dX0_octet_4, rfl⟩
theorem dX0_octet_5 : decode cX0_octet 5 = .ok (.aload_n 0, 1) := by decide +kernel
theorem eX0_octet_5 : dec cX0_octet 5 (.aload_n 0) 1 6 := ⟨dX0_octet_5, rfl⟩
theorem dX0_octet_6 : decode cX0_octet 6 = .ok (.getfield 108, 3) := by decide +kernel
theorem eX0_octet_6 : dec cX0_octet 6 (.getfield 108) 3 9 := ⟨dX0_octet_6, rfl⟩
theorem dX0_octet_9 : decode cX0_octet 9 = .ok (.if_icmp .lt 13, 3) := by decide +kernel
theorem eX0_octet_9 : dec cX0_octet 9 (.if_icmp .lt 13) 3 12 := ⟨dX0_octet_9, rfl⟩
theorem dX0_octet_12 : decode cX0_octet 12 = .ok (.new 68, 3) := by decide +kernel
theorem eX0_octet_12 : dec cX0_octet 12 (.new 68) 3 15 := ⟨dX0_octet_12, rfl⟩
theorem dX0_octet_15 : decode cX0_octet 15 = .ok (.dup, 1) := by decide +kernel
theorem eX0_octet_15 : dec cX0_octet 15 .dup 1 16 := ⟨dX0_octet_15, rfl⟩
theorem dX0_octet_16 : decode cX0_octet 16 = .ok (.ldc 115, 2) := by decide +kernel
theorem eX0_octet_16 : dec cX0_octet 16 (.ldc 115) 2 18 := ⟨dX0_octet_16, rfl⟩
theorem dX0_octet_18 : decode cX0_octet 18 = .ok (.invokespecial 72, 3) := by decide +kernel
theorem eX0_octet_18 : dec cX0_octet 18 (.invokespecial 72) 3 21 := ⟨dX0_octet_18, rfl⟩
theorem dX0_octet_21 : decode cX0_octet 21 = .ok (.athrow, 1) := by decide +kernel
theorem eX0_octet_21 : dec cX0_octet 21 .athrow 1 22 := ⟨dX0_octet_21, rfl⟩
theorem dX0_octet_22 : decode cX0_octet 22 = .ok (.aload_n 0, 1) := by decide +kernel
theorem eX0_octet_22 : dec cX0_octet 22 (.aload_n 0) 1 23 := ⟨dX0_octet_22, rfl⟩
theorem dX0_octet_23 : decode cX0_octet 23 = .ok (.getfield 52, 3) := by decide +kernel
theorem eX0_octet_23 : dec cX0_octet 23 (.getfield 52) 3 26 := ⟨dX0_octet_23, rfl⟩
theorem dX0_octet_26 : decode cX0_octet 26 = .ok (.iload_n 1, 1) := by decide +kernel
theorem eX0_octet_26 : dec cX0_octet 26 (.iload_n 1) 1 27 := ⟨dX0_octet_26, rfl⟩
theorem dX0_octet_27 : decode cX0_octet 27 = .ok (.baload, 1) := by decide +kernel
theorem eX0_octet_27 : dec cX0_octet 27 .baload 1 28 := ⟨dX0_octet_27, rfl⟩
theorem dX0_octet_28 : decode cX0_octet 28 = .ok (.ireturn, 1) := by decide +kernel
theorem eX0_octet_28 : dec cX0_octet 28 .ireturn 1 29 := ⟨dX0_octet_28, rfl⟩
theorem dX0_add_0 : decode cX0_add 0 = .ok (.aload_n 0, 1) := by decide +kernel
theorem eX0_add_0 : dec cX0_add 0 (.aload_n 0) 1 1 := ⟨dX0_add_0, rfl⟩
theorem dX0_add_1 : decode cX0_add 1 = .ok (.getfield 117, 3) := by decide +kernel
theorem eX0_add_1 : dec cX0_add 1 (.getfield 117) 3 4 := ⟨dX0_add_1, rfl⟩
theorem dX0_add_4 : decode cX0_add 4 = .ok (.sipush 5000, 3) := by decide +kernel
theorem eX0_add_4 : dec cX0_add 4 (.sipush 5000) 3 7 := ⟨dX0_add_4, rfl⟩
theorem dX0_add_7 : decode cX0_add 7 = .ok (.if_icmp .ge 23, 3) := by decide +kernel
theorem eX0_add_7 : dec cX0_add 7 (.if_icmp .ge 23) 3 10 := ⟨dX0_add_7, rfl⟩
theorem dX0_add_10 : decode cX0_add 10 = .ok (.aload_n 0, 1) := by decide +kernel
theorem eX0_add_10 : dec cX0_add 10 (.aload_n 0) 1 11 := ⟨dX0_add_10, rfl⟩
theorem dX0_add_11 : decode cX0_add 11 = .ok (.getfield 55, 3) := by decide +kernel
theorem eX0_add_11 : dec cX0_add 11 (.getfield 55) 3 14 := ⟨dX0_add_11, rfl⟩
theorem dX0_add_14 : decode cX0_add 14 = .ok (.aload_n 0, 1) := by decide +kernel
theorem eX0_add_14 : dec cX0_add 14 (.aload_n 0) 1 15 := ⟨dX0_add_14, rfl⟩
theorem dX0_add_15 : decode cX0_add 15 = .ok (.getfield 117, 3) := by decide +kernel
theorem eX0_add_15 : dec cX0_add 15 (.getfield 117) 3 18 := ⟨dX0_add_15, rfl⟩
theorem dX0_add_18 : decode cX0_add 18 = .ok (.iload_n 1, 1) := by decide +kernel
theorem eX0_add_18 : dec cX0_add 18 (.iload_n 1) 1 19 := ⟨dX0_add_18, rfl⟩
theorem dX0_add_19 : decode cX0_add 19 = .ok (.bastore, 1) := by decide +kernel
theorem eX0_add_19 : dec cX0_add 19 .bastore 1 20 := ⟨dX0_add_19, rfl⟩
theorem dX0_add_20 : decode cX0_add 20 = .ok (.aload_n 0, 1) := by decide +kernel
theorem eX0_add_20 : dec cX0_add 20 (.aload_n 0) 1 21 := ⟨dX0_add_20, rfl⟩
theorem dX0_add_21 : decode cX0_add 21 = .ok (.dup, 1) := by decide +kernel
theorem eX0_add_21 : dec cX0_add 21 .dup 1 22 := ⟨dX0_add_21, rfl⟩
theorem dX0_add_22 : decode cX0_add 22 = .ok (.getfield 117, 3) := by decide +kernel
theorem eX0_add_22 : dec cX0_add 22 (.getfield 117) 3 25 := ⟨dX0_add_22, rfl⟩
theorem dX0_add_25 : decode cX0_add 25 = .ok (.iconst 1, 1) := by decide +kernel
theorem eX0_add_25 : dec cX0_add 25 (.iconst 1) 1 26 := ⟨dX0_add_25, rfl⟩
theorem dX0_add_26 : decode cX0_add 26 = .ok (.iadd, 1) := by decide +kernel
theorem eX0_add_26 : dec cX0_add 26 .iadd 1 27 := ⟨dX0_add_26, rfl⟩
theorem dX0_add_27 : decode cX0_add 27 = .ok (.putfield 117, 3) := by decide +kernel
theorem eX0_add_27 : dec cX0_add 27 (.putfield 117) 3 30 := ⟨dX0_add_27, rfl⟩
theorem dX0_add_30 : decode cX0_add 30 = .ok (.return_, 1) := by decide +kernel
theorem eX0_add_30 : dec cX0_add 30 .return_ 1 31 := ⟨dX0_add_30, rfl⟩
set_option maxRecDepth 20000 in
theorem ggX0_unpack_X0_readCollected : GoodIn wsX0_unpack wsX0_readCollected := goodIn_r _ [6, 1, 7, 8, 14, 15, 16, 17, 18, 19, 20, 21, 22, 23, 24, 25, 26, 27, 28, 29] (by decide +kernel) (by decide +kernel)
set_option maxRecDepth 20000 in
theorem gX0_unpack_X0_readCollected : GoodIn wsX0_unpack (wsV RX0 120 RX0 yX0_readCollected wsX0_readCollected) := goodIn_app (goodIn_of _ (by decide +kernel)) ggX0_unpack_X0_readCollected
set_option maxRecDepth 20000 in
theorem ggX0_unpack_X0_takeSpare : GoodIn wsX0_unpack wsX0_takeSpare := goodIn_r _ [12, 13, 8, 14, 15, 16, 17, 18, 19, 20, 21, 22, 23, 24, 25, 26, 27, 28, 29] (by decide +kernel) (by decide +kernel)
set_option maxRecDepth 20000 in
theorem gX0_unpack_X0_takeSpare : GoodIn wsX0_unpack (wsV RX0 104 RX0 yX0_takeSpare wsX0_takeSpare) := goodIn_app (goodIn_of _ (by decide +kernel)) ggX0_unpack_X0_takeSpare
theorem dX0_unpack_0 : decode cX0_unpack 0 = .ok (.aload_n 0, 1) := by decide +kernel
theorem eX0_unpack_0 : dec cX0_unpack 0 (.aload_n 0) 1 1 := ⟨dX0_unpack_0, rfl⟩
theorem dX0_unpack_1 : decode cX0_unpack 1 = .ok (.invokevirtual 120, 3) := by decide +kernel
theorem eX0_unpack_1 : dec cX0_unpack 1 (.invokevirtual 120) 3 4 := ⟨dX0_unpack_1, rfl⟩
theorem dX0_unpack_4 : decode cX0_unpack 4 = .ok (.istore_n 1, 1) := by decide +kernel
theorem eX0_unpack_4 : dec cX0_unpack 4 (.istore_n 1) 1 5 := ⟨dX0_unpack_4, rfl⟩
theorem dX0_unpack_5 : decode cX0_unpack 5 = .ok (.aload_n 0, 1) := by decide +kernel
theorem eX0_unpack_5 : dec cX0_unpack 5 (.aload_n 0) 1 6 := ⟨dX0_unpack_5, rfl⟩
theorem dX0_unpack_6 : decode cX0_unpack 6 = .ok (.iconst 0, 1) := by decide +kernel
theorem eX0_unpack_6 : dec cX0_unpack 6 (.iconst 0) 1 7 := ⟨dX0_unpack_6, rfl⟩
theorem dX0_unpack_7 : decode cX0_unpack 7 = .ok (.putfield 117, 3) := by decide +kernel
theorem eX0_unpack_7 : dec cX0_unpack 7 (.putfield 117) 3 10 := ⟨dX0_unpack_7, rfl⟩
theorem dX0_unpack_10 : decode cX0_unpack 10 = .ok (.iload_n 1, 1) := by decide +kernel
theorem eX0_unpack_10 : dec cX0_unpack 10 (.iload_n 1) 1 11 := ⟨dX0_unpack_10, rfl⟩
theorem dX0_unpack_11 : decode cX0_unpack 11 = .ok (.iconst (-1), 1) := by decide +kernel
theorem eX0_unpack_11 : dec cX0_unpack 11 (.iconst (-1)) 1 12 := ⟨dX0_unpack_11, rfl⟩
theorem dX0_unpack_12 : decode cX0_unpack 12 = .ok (.if_icmp .eq 7, 3) := by decide +kernel
theorem eX0_unpack_12 : dec cX0_unpack 12 (.if_icmp .eq 7) 3 15 := ⟨dX0_unpack_12, rfl⟩
theorem dX0_unpack_15 : decode cX0_unpack 15 = .ok (.iconst (-1), 1) := by decide +kernel
theorem eX0_unpack_15 : dec cX0_unpack 15 (.iconst (-1)) 1 16 := ⟨dX0_unpack_15, rfl⟩
theorem dX0_unpack_16 : decode cX0_unpack 16 = .ok (.iload_n 1, 1) := by decide +kernel
theorem eX0_unpack_16 : dec cX0_unpack 16 (.iload_n 1) 1 17 := ⟨dX0_unpack_16, rfl⟩
theorem dX0_unpack_17 : decode cX0_unpack 17 = .ok (.isub, 1) := by decide +kernel
theorem eX0_unpack_17 : dec cX0_unpack 17 .isub 1 18 := ⟨dX0_unpack_17, rfl⟩
theorem dX0_unpack_18 : decode cX0_unpack 18 = .ok (.ireturn, 1) := by decide +kernel
theorem eX0_unpack_18 : dec cX0_unpack 18 .ireturn 1 19 := ⟨dX0_unpack_18, rfl⟩
theorem dX0_unpack_19 : decode cX0_unpack 19 = .ok (.aload_n 0, 1) := by decide +kernel
theorem eX0_unpack_19 : dec cX0_unpack 19 (.aload_n 0) 1 20 := ⟨dX0_unpack_19, rfl⟩
theorem dX0_unpack_20 : decode cX0_unpack 20 = .ok (.invokevirtual 104, 3) := by decide +kernel
theorem eX0_unpack_20 : dec cX0_unpack 20 (.invokevirtual 104) 3 23 := ⟨dX0_unpack_20, rfl⟩
theorem dX0_unpack_23 : decode cX0_unpack 23 = .ok (.pop, 1) := by decide +kernel
theorem eX0_unpack_23 : dec cX0_unpack 23 .pop 1 24 := ⟨dX0_unpack_23, rfl⟩
theorem dX0_unpack_24 : decode cX0_unpack 24 = .ok (.iconst 1, 1) := by decide +kernel
theorem eX0_unpack_24 : dec cX0_unpack 24 (.iconst 1) 1 25 := ⟨dX0_unpack_24, rfl⟩
theorem dX0_unpack_25 : decode cX0_unpack 25 = .ok (.ireturn, 1) := by decide +kernel
theorem eX0_unpack_25 : dec cX0_unpack 25 .ireturn 1 26 := ⟨dX0_unpack_25, rfl⟩
set_option maxRecDepth 20000 in
theorem ggX0_side_X0_mirrorRows : GoodIn wsX0_side wsX0_mirrorRows := goodIn_r _ [5, 6, 7, 8, 9, 34, 35, 36, 37, 38, 39, 40, 41, 42, 43, 44, 45, 46, 47, 48, 49] (by decide +kernel) (by decide +kernel)
set_option maxRecDepth 20000 in
theorem gX0_side_X0_mirrorRows : GoodIn wsX0_side (wsV RX0 123 RX0 yX0_mirrorRows wsX0_mirrorRows) := goodIn_app (goodIn_of _ (by decide +kernel)) ggX0_side_X0_mirrorRows
set_option maxRecDepth 20000 in
theorem ggX0_side_X0_reverseRows : GoodIn wsX0_side wsX0_reverseRows := goodIn_r _ [13, 6, 7, 8, 9, 34, 35, 36, 37, 38, 39, 40, 41, 42, 43, 44, 45, 46, 47, 48, 49] (by decide +kernel) (by decide +kernel)
set_option maxRecDepth 20000 in
theorem gX0_side_X0_reverseRows : GoodIn wsX0_side (wsV RX0 126 RX0 yX0_reverseRows wsX0_reverseRows) := goodIn_app (goodIn_of _ (by decide +kernel)) ggX0_side_X0_reverseRows
set_option maxRecDepth 20000 in
theorem ggX0_side_X0_invertGreys : GoodIn wsX0_side wsX0_invertGreys := goodIn_r _ [17, 9, 8, 34, 35, 36, 37, 38, 39, 40, 41, 42, 43, 44, 45, 46, 47, 48, 49] (by decide +kernel) (by decide +kernel)
set_option maxRecDepth 20000 in
theorem gX0_side_X0_invertGreys : GoodIn wsX0_side (wsV RX0 129 RX0 yX0_invertGreys wsX0_invertGreys) := goodIn_app (goodIn_of _ (by decide +kernel)) ggX0_side_X0_invertGreys
set_option maxRecDepth 20000 in
theorem ggX0_side_X0_halve : GoodIn wsX0_side wsX0_halve := goodIn_r _ [21, 8, 6, 7, 22, 23, 24, 25, 26, 27, 28, 4, 29, 9, 34, 35, 36, 37, 38, 39, 40, 41, 42, 43, 44, 45, 46, 47, 48, 49] (by decide +kernel) (by decide +kernel)
set_option maxRecDepth 20000 in
theorem gX0_side_X0_halve : GoodIn wsX0_side (wsV RX0 132 RX0 yX0_halve wsX0_halve) := goodIn_app (goodIn_of _ (by decide +kernel)) ggX0_side_X0_halve
set_option maxRecDepth 20000 in
theorem ggX0_side_X0_takeSpare : GoodIn wsX0_side wsX0_takeSpare := goodIn_r _ [33, 9, 8, 34, 35, 36, 37, 38, 39, 40, 41, 42, 43, 44, 45, 46, 47, 48, 49] (by decide +kernel) (by decide +kernel)
set_option maxRecDepth 20000 in
theorem gX0_side_X0_takeSpare : GoodIn wsX0_side (wsV RX0 104 RX0 yX0_takeSpare wsX0_takeSpare) := goodIn_app (goodIn_of _ (by decide +kernel)) ggX0_side_X0_takeSpare
theorem dX0_side_0 : decode cX0_side 0 = .ok (.iload_n 1, 1) := by decide +kernel
theorem eX0_side_0 : dec cX0_side 0 (.iload_n 1) 1 1 := ⟨dX0_side_0, rfl⟩
theorem dX0_side_1 : decode cX0_side 1 = .ok (.tableswitch 59 0 3 #[31, 38, 45, 52], 31) := by decide +kernel
theorem eX0_side_1 : dec cX0_side 1 (.tableswitch 59 0 3 #[31, 38, 45, 52]) 31 32 := ⟨dX0_side_1, rfl⟩
theorem dX0_side_32 : decode cX0_side 32 = .ok (.aload_n 0, 1) := by decide +kernel
theorem eX0_side_32 : dec cX0_side 32 (.aload_n 0) 1 33 := ⟨dX0_side_32, rfl⟩
theorem dX0_side_33 : decode cX0_side 33 = .ok (.invokevirtual 123, 3) := by decide +kernel
theorem eX0_side_33 : dec cX0_side 33 (.invokevirtual 123) 3 36 := ⟨dX0_side_33, rfl⟩
theorem dX0_side_36 : decode cX0_side 36 = .ok (.goto 26, 3) := by decide +kernel
theorem eX0_side_36 : dec cX0_side 36 (.goto 26) 3 39 := ⟨dX0_side_36, rfl⟩
theorem dX0_side_39 : decode cX0_side 39 = .ok (.aload_n 0, 1) := by decide +kernel
theorem eX0_side_39 : dec cX0_side 39 (.aload_n 0) 1 40 := ⟨dX0_side_39, rfl⟩
theorem dX0_side_40 : decode cX0_side 40 = .ok (.invokevirtual 126, 3) := by decide +kernel
theorem eX0_side_40 : dec cX0_side 40 (.invokevirtual 126) 3 43 := ⟨dX0_side_40, rfl⟩
theorem dX0_side_43 : decode cX0_side 43 = .ok (.goto 19, 3) := by decide +kernel
theorem eX0_side_43 : dec cX0_side 43 (.goto 19) 3 46 := ⟨dX0_side_43, rfl⟩
theorem dX0_side_46 : decode cX0_side 46 = .ok (.aload_n 0, 1) := by decide +kernel
theorem eX0_side_46 : dec cX0_side 46 (.aload_n 0) 1 47 := ⟨dX0_side_46, rfl⟩
theorem dX0_side_47 : decode cX0_side 47 = .ok (.invokevirtual 129, 3) := by decide +kernel
theorem eX0_side_47 : dec cX0_side 47 (.invokevirtual 129) 3 50 := ⟨dX0_side_47, rfl⟩
theorem dX0_side_50 : decode cX0_side 50 = .ok (.goto 12, 3) := by decide +kernel
theorem eX0_side_50 : dec cX0_side 50 (.goto 12) 3 53 := ⟨dX0_side_50, rfl⟩
theorem dX0_side_53 : decode cX0_side 53 = .ok (.aload_n 0, 1) := by decide +kernel
theorem eX0_side_53 : dec cX0_side 53 (.aload_n 0) 1 54 := ⟨dX0_side_53, rfl⟩
theorem dX0_side_54 : decode cX0_side 54 = .ok (.invokevirtual 132, 3) := by decide +kernel
theorem eX0_side_54 : dec cX0_side 54 (.invokevirtual 132) 3 57 := ⟨dX0_side_54, rfl⟩
theorem dX0_side_57 : decode cX0_side 57 = .ok (.goto 5, 3) := by decide +kernel
theorem eX0_side_57 : dec cX0_side 57 (.goto 5) 3 60 := ⟨dX0_side_57, rfl⟩
theorem dX0_side_60 : decode cX0_side 60 = .ok (.iconst (-1), 1) := by decide +kernel
theorem eX0_side_60 : dec cX0_side 60 (.iconst (-1)) 1 61 := ⟨dX0_side_60, rfl⟩
theorem dX0_side_61 : decode cX0_side 61 = .ok (.ireturn, 1) := by decide +kernel
theorem eX0_side_61 : dec cX0_side 61 .ireturn 1 62 := ⟨dX0_side_61, rfl⟩
theorem dX0_side_62 : decode cX0_side 62 = .ok (.aload_n 0, 1) := by decide +kernel
theorem eX0_side_62 : dec cX0_side 62 (.aload_n 0) 1 63 := ⟨dX0_side_62, rfl⟩
theorem dX0_side_63 : decode cX0_side 63 = .ok (.invokevirtual 104, 3) := by decide +kernel
theorem eX0_side_63 : dec cX0_side 63 (.invokevirtual 104) 3 66 := ⟨dX0_side_63, rfl⟩
theorem dX0_side_66 : decode cX0_side 66 = .ok (.ireturn, 1) := by decide +kernel
theorem eX0_side_66 : dec cX0_side 66 .ireturn 1 67 := ⟨dX0_side_66, rfl⟩
set_option maxRecDepth 20000 in
theorem ggX0_inverted_X0_threshold : GoodIn wsX0_inverted wsX0_threshold := goodIn_r _ [5, 6, 7, 8, 4, 9, 10, 11, 12, 13, 14, 15, 16, 17, 18, 19, 20, 21, 22, 23, 24, 29, 30, 31, 32, 33, 34, 35, 36, 37, 38, 39, 40, 41, 42, 43, 44] (by decide +kernel) (by decide +kernel)
set_option maxRecDepth 20000 in
theorem gX0_inverted_X0_threshold : GoodIn wsX0_inverted (wsV RX0 135 RX0 yX0_threshold wsX0_threshold) := goodIn_app (goodIn_of _ (by decide +kernel)) ggX0_inverted_X0_threshold
set_option maxRecDepth 20000 in
theorem ggX0_inverted_X0_hasMostlyLow : GoodIn wsX0_inverted wsX0_hasMostlyLow := goodIn_r _ [28, 10, 11, 29, 30, 31, 32, 33, 34, 35, 36, 37, 38, 39, 40, 41, 42, 43, 44] (by decide +kernel) (by decide +kernel)
set_option maxRecDepth 20000 in
theorem gX0_inverted_X0_hasMostlyLow : GoodIn wsX0_inverted (wsV RX0 138 RX0 yX0_hasMostlyLow wsX0_hasMostlyLow) := goodIn_app (goodIn_of _ (by decide +kernel)) ggX0_inverted_X0_hasMostlyLow
theorem dX0_inverted_0 : decode cX0_inverted 0 = .ok (.aload_n 0, 1) := by decide +kernel
theorem eX0_inverted_0 : dec cX0_inverted 0 (.aload_n 0) 1 1 := ⟨dX0_inverted_0, rfl⟩
theorem dX0_inverted_1 : decode cX0_inverted 1 = .ok (.aload_n 0, 1) := by decide +kernel
theorem eX0_inverted_1 : dec cX0_inverted 1 (.aload_n 0) 1 2 := ⟨dX0_inverted_1, rfl⟩
theorem dX0_inverted_2 : decode cX0_inverted 2 = .ok (.invokevirtual 135, 3) := by decide +kernel
theorem eX0_inverted_2 : dec cX0_inverted 2 (.invokevirtual 135) 3 5 := ⟨dX0_inverted_2, rfl⟩
theorem dX0_inverted_5 : decode cX0_inverted 5 = .ok (.invokevirtual 138, 3) := by decide +kernel
theorem eX0_inverted_5 : dec cX0_inverted 5 (.invokevirtual 138) 3 8 := ⟨dX0_inverted_5, rfl⟩
theorem dX0_inverted_8 : decode cX0_inverted 8 = .ok (.ireturn, 1) := by decide +kernel
theorem eX0_inverted_8 : dec cX0_inverted 8 .ireturn 1 9 := ⟨dX0_inverted_8, rfl⟩
set_option maxRecDepth 20000 in
theorem ggX0_grey_X0_isOnSheet : GoodIn wsX0_grey wsX0_isOnSheet := goodIn_r _ [10, 5, 11, 18, 19, 20, 21, 22, 23, 24, 25, 26, 27, 28, 29, 30, 31, 32, 33] (by decide +kernel) (by decide +kernel)
set_option maxRecDepth 20000 in
theorem gX0_grey_X0_isOnSheet : GoodIn wsX0_grey (wsV RX0 64 RX0 yX0_isOnSheet wsX0_isOnSheet) := goodIn_app (goodIn_of _ (by decide +kernel)) ggX0_grey_X0_isOnSheet
theorem dX0_grey_0 : decode cX0_grey 0 = .ok (.aload_n 0, 1) := by decide +kernel
theorem eX0_grey_0 : dec cX0_grey 0 (.aload_n 0) 1 1 := ⟨dX0_grey_0, rfl⟩
theorem dX0_grey_1 : decode cX0_grey 1 = .ok (.iload_n 1, 1) := by decide +kernel
theorem eX0_grey_1 : dec cX0_grey 1 (.iload_n 1) 1 2 := ⟨dX0_grey_1, rfl⟩
theorem dX0_grey_2 : decode cX0_grey 2 = .ok (.iload_n 2, 1) := by decide +kernel
theorem eX0_grey_2 : dec cX0_grey 2 (.iload_n 2) 1 3 := ⟨dX0_grey_2, rfl⟩
theorem dX0_grey_3 : decode cX0_grey 3 = .ok (.invokevirtual 64, 3) := by decide +kernel
theorem eX0_grey_3 : dec cX0_grey 3 (.invokevirtual 64) 3 6 := ⟨dX0_grey_3, rfl⟩
theorem dX0_grey_6 : decode cX0_grey 6 = .ok (.ifCond .ne 13, 3) := by decide +kernel
theorem eX0_grey_6 : dec cX0_grey 6 (.ifCond .ne 13) 3 9 := ⟨dX0_grey_6, rfl⟩
theorem dX0_grey_9 : decode cX0_grey 9 = .ok (.new 68, 3) := by decide +kernel
theorem eX0_grey_9 : dec cX0_grey 9 (.new 68) 3 12 := ⟨dX0_grey_9, rfl⟩
theorem dX0_grey_12 : decode cX0_grey 12 = .ok (.dup, 1) := by decide +kernel
theorem eX0_grey_12 : dec cX0_grey 12 .dup 1 13 := ⟨dX0_grey_12, rfl⟩
theorem dX0_grey_13 : decode cX0_grey 13 = .ok (.ldc 70, 2) := by decide +kernel
theorem eX0_grey_13 : dec cX0_grey 13 (.ldc 70) 2 15 := ⟨dX0_grey_13, rfl⟩
theorem dX0_grey_15 : decode cX0_grey 15 = .ok (.invokespecial 72, 3) := by decide +kernel
theorem eX0_grey_15 : dec cX0_grey 15 (.invokespecial 72) 3 18 := ⟨dX0_grey_15, rfl⟩
theorem dX0_grey_18 : decode cX0_grey 18 = .ok (.athrow, 1) := by decide +kernel
theorem eX0_grey_18 : dec cX0_grey 18 .athrow 1 19 := ⟨dX0_grey_18, rfl⟩
theorem dX0_grey_19 : decode cX0_grey 19 = .ok (.aload_n 0, 1) := by decide +kernel
theorem eX0_grey_19 : dec cX0_grey 19 (.aload_n 0) 1 20 := ⟨dX0_grey_19, rfl⟩
theorem dX0_grey_20 : decode cX0_grey 20 = .ok (.getfield 25, 3) := by decide +kernel
theorem eX0_grey_20 : dec cX0_grey 20 (.getfield 25) 3 23 := ⟨dX0_grey_20, rfl⟩
theorem dX0_grey_23 : decode cX0_grey 23 = .ok (.iload_n 2, 1) := by decide +kernel
theorem eX0_grey_23 : dec cX0_grey 23 (.iload_n 2) 1 24 := ⟨dX0_grey_23, rfl⟩
theorem dX0_grey_24 : decode cX0_grey 24 = .ok (.aload_n 0, 1) := by decide +kernel
theorem eX0_grey_24 : dec cX0_grey 24 (.aload_n 0) 1 25 := ⟨dX0_grey_24, rfl⟩
theorem dX0_grey_25 : decode cX0_grey 25 = .ok (.getfield 18, 3) := by decide +kernel
theorem eX0_grey_25 : dec cX0_grey 25 (.getfield 18) 3 28 := ⟨dX0_grey_25, rfl⟩
theorem dX0_grey_28 : decode cX0_grey 28 = .ok (.imul, 1) := by decide +kernel
theorem eX0_grey_28 : dec cX0_grey 28 .imul 1 29 := ⟨dX0_grey_28, rfl⟩
theorem dX0_grey_29 : decode cX0_grey 29 = .ok (.iload_n 1, 1) := by decide +kernel
theorem eX0_grey_29 : dec cX0_grey 29 (.iload_n 1) 1 30 := ⟨dX0_grey_29, rfl⟩
theorem dX0_grey_30 : decode cX0_grey 30 = .ok (.iadd, 1) := by decide +kernel
theorem eX0_grey_30 : dec cX0_grey 30 .iadd 1 31 := ⟨dX0_grey_30, rfl⟩
theorem dX0_grey_31 : decode cX0_grey 31 = .ok (.baload, 1) := by decide +kernel
theorem eX0_grey_31 : dec cX0_grey 31 .baload 1 32 := ⟨dX0_grey_31, rfl⟩
theorem dX0_grey_32 : decode cX0_grey 32 = .ok (.sipush 255, 3) := by decide +kernel
theorem eX0_grey_32 : dec cX0_grey 32 (.sipush 255) 3 35 := ⟨dX0_grey_32, rfl⟩
theorem dX0_grey_35 : decode cX0_grey 35 = .ok (.iand, 1) := by decide +kernel
theorem eX0_grey_35 : dec cX0_grey 35 .iand 1 36 := ⟨dX0_grey_35, rfl⟩
theorem dX0_grey_36 : decode cX0_grey 36 = .ok (.ireturn, 1) := by decide +kernel
theorem eX0_grey_36 : dec cX0_grey 36 .ireturn 1 37 := ⟨dX0_grey_36, rfl⟩
theorem dX0_isOnSheet_0 : decode cX0_isOnSheet 0 = .ok (.iload_n 1, 1) := by decide +kernel
theorem eX0_isOnSheet_0 : dec cX0_isOnSheet 0 (.iload_n 1) 1 1 := ⟨dX0_isOnSheet_0, rfl⟩
theorem dX0_isOnSheet_1 : decode cX0_isOnSheet 1 = .ok (.ifCond .lt 27, 3) := by decide +kernel
theorem eX0_isOnSheet_1 : dec cX0_isOnSheet 1 (.ifCond .lt 27) 3 4 := ⟨dX0_isOnSheet_1, rfl⟩
theorem dX0_isOnSheet_4 : decode cX0_isOnSheet 4 = .ok (.iload_n 1, 1) := by decide +kernel
theorem eX0_isOnSheet_4 : dec cX0_isOnSheet 4 (.iload_n 1) 1 5 := ⟨dX0_isOnSheet_4, rfl⟩
theorem dX0_isOnSheet_5 : decode cX0_isOnSheet 5 = .ok (.aload_n 0, 1) := by decide +kernel
theorem eX0_isOnSheet_5 : dec cX0_isOnSheet 5 (.aload_n 0) 1 6 := ⟨dX0_isOnSheet_5, rfl⟩
theorem dX0_isOnSheet_6 : decode cX0_isOnSheet 6 = .ok (.getfield 18, 3) := by decide +kernel
theorem eX0_isOnSheet_6 : dec cX0_isOnSheet 6 (.getfield 18) 3 9 := ⟨dX0_isOnSheet_6, rfl⟩
theorem dX0_isOnSheet_9 : decode cX0_isOnSheet 9 = .ok (.if_icmp .ge 19, 3) := by decide +kernel
theorem eX0_isOnSheet_9 : dec cX0_isOnSheet 9 (.if_icmp .ge 19) 3 12 := ⟨dX0_isOnSheet_9, rfl⟩
theorem dX0_isOnSheet_12 : decode cX0_isOnSheet 12 = .ok (.iload_n 2, 1) := by decide +kernel
theorem eX0_isOnSheet_12 : dec cX0_isOnSheet 12 (.iload_n 2) 1 13 := ⟨dX0_isOnSheet_12, rfl⟩
theorem dX0_isOnSheet_13 : decode cX0_isOnSheet 13 = .ok (.ifCond .lt 15, 3) := by decide +kernel
theorem eX0_isOnSheet_13 : dec cX0_isOnSheet 13 (.ifCond .lt 15) 3 16 := ⟨dX0_isOnSheet_13, rfl⟩
theorem dX0_isOnSheet_16 : decode cX0_isOnSheet 16 = .ok (.iload_n 2, 1) := by decide +kernel
theorem eX0_isOnSheet_16 : dec cX0_isOnSheet 16 (.iload_n 2) 1 17 := ⟨dX0_isOnSheet_16, rfl⟩
theorem dX0_isOnSheet_17 : decode cX0_isOnSheet 17 = .ok (.aload_n 0, 1) := by decide +kernel
theorem eX0_isOnSheet_17 : dec cX0_isOnSheet 17 (.aload_n 0) 1 18 := ⟨dX0_isOnSheet_17, rfl⟩
theorem dX0_isOnSheet_18 : decode cX0_isOnSheet 18 = .ok (.getfield 22, 3) := by decide +kernel
theorem eX0_isOnSheet_18 : dec cX0_isOnSheet 18 (.getfield 22) 3 21 := ⟨dX0_isOnSheet_18, rfl⟩
theorem dX0_isOnSheet_21 : decode cX0_isOnSheet 21 = .ok (.if_icmp .ge 7, 3) := by decide +kernel
theorem eX0_isOnSheet_21 : dec cX0_isOnSheet 21 (.if_icmp .ge 7) 3 24 := ⟨dX0_isOnSheet_21, rfl⟩
theorem dX0_isOnSheet_24 : decode cX0_isOnSheet 24 = .ok (.iconst 1, 1) := by decide +kernel
theorem eX0_isOnSheet_24 : dec cX0_isOnSheet 24 (.iconst 1) 1 25 := ⟨dX0_isOnSheet_24, rfl⟩
theorem dX0_isOnSheet_25 : decode cX0_isOnSheet 25 = .ok (.goto 4, 3) := by decide +kernel
theorem eX0_isOnSheet_25 : dec cX0_isOnSheet 25 (.goto 4) 3 28 := ⟨dX0_isOnSheet_25, rfl⟩
theorem dX0_isOnSheet_28 : decode cX0_isOnSheet 28 = .ok (.iconst 0, 1) := by decide +kernel
theorem eX0_isOnSheet_28 : dec cX0_isOnSheet 28 (.iconst 0) 1 29 := ⟨dX0_isOnSheet_28, rfl⟩
theorem dX0_isOnSheet_29 : decode cX0_isOnSheet 29 = .ok (.ireturn, 1) := by decide +kernel
theorem eX0_isOnSheet_29 : dec cX0_isOnSheet 29 .ireturn 1 30 := ⟨dX0_isOnSheet_29, rfl⟩
theorem dX0_takeSpare_0 : decode cX0_takeSpare 0 = .ok (.iconst 0, 1) := by decide +kernel
theorem eX0_takeSpare_0 : dec cX0_takeSpare 0 (.iconst 0) 1 1 := ⟨dX0_takeSpare_0, rfl⟩
theorem dX0_takeSpare_1 : decode cX0_takeSpare 1 = .ok (.istore_n 1, 1) := by decide +kernel
theorem eX0_takeSpare_1 : dec cX0_takeSpare 1 (.istore_n 1) 1 2 := ⟨dX0_takeSpare_1, rfl⟩
theorem dX0_takeSpare_2 : decode cX0_takeSpare 2 = .ok (.iconst 0, 1) := by decide +kernel
theorem eX0_takeSpare_2 : dec cX0_takeSpare 2 (.iconst 0) 1 3 := ⟨dX0_takeSpare_2, rfl⟩
theorem dX0_takeSpare_3 : decode cX0_takeSpare 3 = .ok (.istore_n 2, 1) := by decide +kernel
theorem eX0_takeSpare_3 : dec cX0_takeSpare 3 (.istore_n 2) 1 4 := ⟨dX0_takeSpare_3, rfl⟩
theorem dX0_takeSpare_4 : decode cX0_takeSpare 4 = .ok (.iload_n 2, 1) := by decide +kernel
theorem eX0_takeSpare_4 : dec cX0_takeSpare 4 (.iload_n 2) 1 5 := ⟨dX0_takeSpare_4, rfl⟩
theorem dX0_takeSpare_5 : decode cX0_takeSpare 5 = .ok (.aload_n 0, 1) := by decide +kernel
theorem eX0_takeSpare_5 : dec cX0_takeSpare 5 (.aload_n 0) 1 6 := ⟨dX0_takeSpare_5, rfl⟩
theorem dX0_takeSpare_6 : decode cX0_takeSpare 6 = .ok (.getfield 25, 3) := by decide +kernel
theorem eX0_takeSpare_6 : dec cX0_takeSpare 6 (.getfield 25) 3 9 := ⟨dX0_takeSpare_6, rfl⟩
theorem dX0_takeSpare_9 : decode cX0_takeSpare 9 = .ok (.arraylength, 1) := by decide +kernel
theorem eX0_takeSpare_9 : dec cX0_takeSpare 9 .arraylength 1 10 := ⟨dX0_takeSpare_9, rfl⟩
theorem dX0_takeSpare_10 : decode cX0_takeSpare 10 = .ok (.if_icmp .ge 27, 3) := by decide +kernel
theorem eX0_takeSpare_10 : dec cX0_takeSpare 10 (.if_icmp .ge 27) 3 13 := ⟨dX0_takeSpare_10, rfl⟩
theorem dX0_takeSpare_13 : decode cX0_takeSpare 13 = .ok (.aload_n 0, 1) := by decide +kernel
theorem eX0_takeSpare_13 : dec cX0_takeSpare 13 (.aload_n 0) 1 14 := ⟨dX0_takeSpare_13, rfl⟩
theorem dX0_takeSpare_14 : decode cX0_takeSpare 14 = .ok (.getfield 25, 3) := by decide +kernel
theorem eX0_takeSpare_14 : dec cX0_takeSpare 14 (.getfield 25) 3 17 := ⟨dX0_takeSpare_14, rfl⟩
theorem dX0_takeSpare_17 : decode cX0_takeSpare 17 = .ok (.iload_n 2, 1) := by decide +kernel
theorem eX0_takeSpare_17 : dec cX0_takeSpare 17 (.iload_n 2) 1 18 := ⟨dX0_takeSpare_17, rfl⟩
theorem dX0_takeSpare_18 : decode cX0_takeSpare 18 = .ok (.baload, 1) := by decide +kernel
theorem eX0_takeSpare_18 : dec cX0_takeSpare 18 .baload 1 19 := ⟨dX0_takeSpare_18, rfl⟩
theorem dX0_takeSpare_19 : decode cX0_takeSpare 19 = .ok (.aload_n 0, 1) := by decide +kernel
theorem eX0_takeSpare_19 : dec cX0_takeSpare 19 (.aload_n 0) 1 20 := ⟨dX0_takeSpare_19, rfl⟩
theorem dX0_takeSpare_20 : decode cX0_takeSpare 20 = .ok (.getfield 29, 3) := by decide +kernel
theorem eX0_takeSpare_20 : dec cX0_takeSpare 20 (.getfield 29) 3 23 := ⟨dX0_takeSpare_20, rfl⟩
theorem dX0_takeSpare_23 : decode cX0_takeSpare 23 = .ok (.iload_n 2, 1) := by decide +kernel
theorem eX0_takeSpare_23 : dec cX0_takeSpare 23 (.iload_n 2) 1 24 := ⟨dX0_takeSpare_23, rfl⟩
theorem dX0_takeSpare_24 : decode cX0_takeSpare 24 = .ok (.baload, 1) := by decide +kernel
theorem eX0_takeSpare_24 : dec cX0_takeSpare 24 .baload 1 25 := ⟨dX0_takeSpare_24, rfl⟩
theorem dX0_takeSpare_25 : decode cX0_takeSpare 25 = .ok (.if_icmp .eq 6, 3) := by decide +kernel
theorem eX0_takeSpare_25 : dec cX0_takeSpare 25 (.if_icmp .eq 6) 3 28 := ⟨dX0_takeSpare_25, rfl⟩
theorem dX0_takeSpare_28 : decode cX0_takeSpare 28 = .ok (.iinc 1 1, 3) := by decide +kernel
theorem eX0_takeSpare_28 : dec cX0_takeSpare 28 (.iinc 1 1) 3 31 := ⟨dX0_takeSpare_28, rfl⟩
theorem dX0_takeSpare_31 : decode cX0_takeSpare 31 = .ok (.iinc 2 1, 3) := by decide +kernel
theorem eX0_takeSpare_31 : dec cX0_takeSpare 31 (.iinc 2 1) 3 34 := ⟨dX0_takeSpare_31, rfl⟩
theorem dX0_takeSpare_34 : decode cX0_takeSpare 34 = .ok (.goto (-30), 3) := by decide +kernel
theorem eX0_takeSpare_34 : dec cX0_takeSpare 34 (.goto (-30)) 3 37 := ⟨dX0_takeSpare_34, rfl⟩
theorem dX0_takeSpare_37 : decode cX0_takeSpare 37 = .ok (.aload_n 0, 1) := by decide +kernel
theorem eX0_takeSpare_37 : dec cX0_takeSpare 37 (.aload_n 0) 1 38 := ⟨dX0_takeSpare_37, rfl⟩
theorem dX0_takeSpare_38 : decode cX0_takeSpare 38 = .ok (.getfield 25, 3) := by decide +kernel
theorem eX0_takeSpare_38 : dec cX0_takeSpare 38 (.getfield 25) 3 41 := ⟨dX0_takeSpare_38, rfl⟩
theorem dX0_takeSpare_41 : decode cX0_takeSpare 41 = .ok (.astore_n 2, 1) := by decide +kernel
theorem eX0_takeSpare_41 : dec cX0_takeSpare 41 (.astore_n 2) 1 42 := ⟨dX0_takeSpare_41, rfl⟩
theorem dX0_takeSpare_42 : decode cX0_takeSpare 42 = .ok (.aload_n 0, 1) := by decide +kernel
theorem eX0_takeSpare_42 : dec cX0_takeSpare 42 (.aload_n 0) 1 43 := ⟨dX0_takeSpare_42, rfl⟩
theorem dX0_takeSpare_43 : decode cX0_takeSpare 43 = .ok (.aload_n 0, 1) := by decide +kernel
theorem eX0_takeSpare_43 : dec cX0_takeSpare 43 (.aload_n 0) 1 44 := ⟨dX0_takeSpare_43, rfl⟩
theorem dX0_takeSpare_44 : decode cX0_takeSpare 44 = .ok (.getfield 29, 3) := by decide +kernel
theorem eX0_takeSpare_44 : dec cX0_takeSpare 44 (.getfield 29) 3 47 := ⟨dX0_takeSpare_44, rfl⟩
theorem dX0_takeSpare_47 : decode cX0_takeSpare 47 = .ok (.putfield 25, 3) := by decide +kernel
theorem eX0_takeSpare_47 : dec cX0_takeSpare 47 (.putfield 25) 3 50 := ⟨dX0_takeSpare_47, rfl⟩
theorem dX0_takeSpare_50 : decode cX0_takeSpare 50 = .ok (.aload_n 0, 1) := by decide +kernel
theorem eX0_takeSpare_50 : dec cX0_takeSpare 50 (.aload_n 0) 1 51 := ⟨dX0_takeSpare_50, rfl⟩
theorem dX0_takeSpare_51 : decode cX0_takeSpare 51 = .ok (.aload_n 2, 1) := by decide +kernel
theorem eX0_takeSpare_51 : dec cX0_takeSpare 51 (.aload_n 2) 1 52 := ⟨dX0_takeSpare_51, rfl⟩
theorem dX0_takeSpare_52 : decode cX0_takeSpare 52 = .ok (.putfield 29, 3) := by decide +kernel
theorem eX0_takeSpare_52 : dec cX0_takeSpare 52 (.putfield 29) 3 55 := ⟨dX0_takeSpare_52, rfl⟩
theorem dX0_takeSpare_55 : decode cX0_takeSpare 55 = .ok (.iload_n 1, 1) := by decide +kernel
theorem eX0_takeSpare_55 : dec cX0_takeSpare 55 (.iload_n 1) 1 56 := ⟨dX0_takeSpare_55, rfl⟩
theorem dX0_takeSpare_56 : decode cX0_takeSpare 56 = .ok (.ireturn, 1) := by decide +kernel
theorem eX0_takeSpare_56 : dec cX0_takeSpare 56 .ireturn 1 57 := ⟨dX0_takeSpare_56, rfl⟩
set_option maxRecDepth 20000 in
theorem ggX0_tallyGreys_J7_fill_53178 : GoodIn wsX0_tallyGreys wsJ7_fill_53178 := goodIn_r _ [7] (by decide +kernel) (by decide +kernel)
set_option maxRecDepth 20000 in
theorem gX0_tallyGreys_J7_fill_53178 : GoodIn wsX0_tallyGreys (va_wsS RX0 142 yJ7_fill_53178 wsJ7_fill_53178) := goodIn_app (goodIn_of _ (by decide +kernel)) ggX0_tallyGreys_J7_fill_53178
theorem dX0_tallyGreys_0 : decode cX0_tallyGreys 0 = .ok (.aload_n 0, 1) := by decide +kernel
theorem eX0_tallyGreys_0 : dec cX0_tallyGreys 0 (.aload_n 0) 1 1 := ⟨dX0_tallyGreys_0, rfl⟩
theorem dX0_tallyGreys_1 : decode cX0_tallyGreys 1 = .ok (.getfield 32, 3) := by decide +kernel
theorem eX0_tallyGreys_1 : dec cX0_tallyGreys 1 (.getfield 32) 3 4 := ⟨dX0_tallyGreys_1, rfl⟩
theorem dX0_tallyGreys_4 : decode cX0_tallyGreys 4 = .ok (.iconst 0, 1) := by decide +kernel
theorem eX0_tallyGreys_4 : dec cX0_tallyGreys 4 (.iconst 0) 1 5 := ⟨dX0_tallyGreys_4, rfl⟩
theorem dX0_tallyGreys_5 : decode cX0_tallyGreys 5 = .ok (.invokestatic 142, 3) := by decide +kernel
theorem eX0_tallyGreys_5 : dec cX0_tallyGreys 5 (.invokestatic 142) 3 8 := ⟨dX0_tallyGreys_5, rfl⟩
theorem dX0_tallyGreys_8 : decode cX0_tallyGreys 8 = .ok (.iconst 0, 1) := by decide +kernel
theorem eX0_tallyGreys_8 : dec cX0_tallyGreys 8 (.iconst 0) 1 9 := ⟨dX0_tallyGreys_8, rfl⟩
theorem dX0_tallyGreys_9 : decode cX0_tallyGreys 9 = .ok (.istore_n 1, 1) := by decide +kernel
theorem eX0_tallyGreys_9 : dec cX0_tallyGreys 9 (.istore_n 1) 1 10 := ⟨dX0_tallyGreys_9, rfl⟩
theorem dX0_tallyGreys_10 : decode cX0_tallyGreys 10 = .ok (.iload_n 1, 1) := by decide +kernel
theorem eX0_tallyGreys_10 : dec cX0_tallyGreys 10 (.iload_n 1) 1 11 := ⟨dX0_tallyGreys_10, rfl⟩
theorem dX0_tallyGreys_11 : decode cX0_tallyGreys 11 = .ok (.aload_n 0, 1) := by decide +kernel
theorem eX0_tallyGreys_11 : dec cX0_tallyGreys 11 (.aload_n 0) 1 12 := ⟨dX0_tallyGreys_11, rfl⟩
theorem dX0_tallyGreys_12 : decode cX0_tallyGreys 12 = .ok (.getfield 25, 3) := by decide +kernel
theorem eX0_tallyGreys_12 : dec cX0_tallyGreys 12 (.getfield 25) 3 15 := ⟨dX0_tallyGreys_12, rfl⟩
theorem dX0_tallyGreys_15 : decode cX0_tallyGreys 15 = .ok (.arraylength, 1) := by decide +kernel
theorem eX0_tallyGreys_15 : dec cX0_tallyGreys 15 .arraylength 1 16 := ⟨dX0_tallyGreys_15, rfl⟩
theorem dX0_tallyGreys_16 : decode cX0_tallyGreys 16 = .ok (.if_icmp .ge 30, 3) := by decide +kernel
theorem eX0_tallyGreys_16 : dec cX0_tallyGreys 16 (.if_icmp .ge 30) 3 19 := ⟨dX0_tallyGreys_16, rfl⟩
theorem dX0_tallyGreys_19 : decode cX0_tallyGreys 19 = .ok (.aload_n 0, 1) := by decide +kernel
theorem eX0_tallyGreys_19 : dec cX0_tallyGreys 19 (.aload_n 0) 1 20 := ⟨dX0_tallyGreys_19, rfl⟩
theorem dX0_tallyGreys_20 : decode cX0_tallyGreys 20 = .ok (.getfield 32, 3) := by decide +kernel
theorem eX0_tallyGreys_20 : dec cX0_tallyGreys 20 (.getfield 32) 3 23 := ⟨dX0_tallyGreys_20, rfl⟩
theorem dX0_tallyGreys_23 : decode cX0_tallyGreys 23 = .ok (.aload_n 0, 1) := by decide +kernel
theorem eX0_tallyGreys_23 : dec cX0_tallyGreys 23 (.aload_n 0) 1 24 := ⟨dX0_tallyGreys_23, rfl⟩
theorem dX0_tallyGreys_24 : decode cX0_tallyGreys 24 = .ok (.getfield 25, 3) := by decide +kernel
theorem eX0_tallyGreys_24 : dec cX0_tallyGreys 24 (.getfield 25) 3 27 := ⟨dX0_tallyGreys_24, rfl⟩
theorem dX0_tallyGreys_27 : decode cX0_tallyGreys 27 = .ok (.iload_n 1, 1) := by decide +kernel
theorem eX0_tallyGreys_27 : dec cX0_tallyGreys 27 (.iload_n 1) 1 28 := ⟨dX0_tallyGreys_27, rfl⟩
theorem dX0_tallyGreys_28 : decode cX0_tallyGreys 28 = .ok (.baload, 1) := by decide +kernel
theorem eX0_tallyGreys_28 : dec cX0_tallyGreys 28 .baload 1 29 := ⟨dX0_tallyGreys_28, rfl⟩
theorem dX0_tallyGreys_29 : decode cX0_tallyGreys 29 = .ok (.sipush 255, 3) := by decide +kernel
theorem eX0_tallyGreys_29 : dec cX0_tallyGreys 29 (.sipush 255) 3 32 := ⟨dX0_tallyGreys_29, rfl⟩
theorem dX0_tallyGreys_32 : decode cX0_tallyGreys 32 = .ok (.iand, 1) := by decide +kernel
theorem eX0_tallyGreys_32 : dec cX0_tallyGreys 32 .iand 1 33 := ⟨dX0_tallyGreys_32, rfl⟩
theorem dX0_tallyGreys_33 : decode cX0_tallyGreys 33 = .ok (.iconst 1, 1) := by decide +kernel
theorem eX0_tallyGreys_33 : dec cX0_tallyGreys 33 (.iconst 1) 1 34 := ⟨dX0_tallyGreys_33, rfl⟩
theorem dX0_tallyGreys_34 : decode cX0_tallyGreys 34 = .ok (.iadd, 1) := by decide +kernel
theorem eX0_tallyGreys_34 : dec cX0_tallyGreys 34 .iadd 1 35 := ⟨dX0_tallyGreys_34, rfl⟩
theorem dX0_tallyGreys_35 : decode cX0_tallyGreys 35 = .ok (.dup2, 1) := by decide +kernel
theorem eX0_tallyGreys_35 : dec cX0_tallyGreys 35 .dup2 1 36 := ⟨dX0_tallyGreys_35, rfl⟩
theorem dX0_tallyGreys_36 : decode cX0_tallyGreys 36 = .ok (.iaload, 1) := by decide +kernel
theorem eX0_tallyGreys_36 : dec cX0_tallyGreys 36 .iaload 1 37 := ⟨dX0_tallyGreys_36, rfl⟩
theorem dX0_tallyGreys_37 : decode cX0_tallyGreys 37 = .ok (.iconst 1, 1) := by decide +kernel
theorem eX0_tallyGreys_37 : dec cX0_tallyGreys 37 (.iconst 1) 1 38 := ⟨dX0_tallyGreys_37, rfl⟩
theorem dX0_tallyGreys_38 : decode cX0_tallyGreys 38 = .ok (.iadd, 1) := by decide +kernel
theorem eX0_tallyGreys_38 : dec cX0_tallyGreys 38 .iadd 1 39 := ⟨dX0_tallyGreys_38, rfl⟩
theorem dX0_tallyGreys_39 : decode cX0_tallyGreys 39 = .ok (.iastore, 1) := by decide +kernel
theorem eX0_tallyGreys_39 : dec cX0_tallyGreys 39 .iastore 1 40 := ⟨dX0_tallyGreys_39, rfl⟩
theorem dX0_tallyGreys_40 : decode cX0_tallyGreys 40 = .ok (.iinc 1 1, 3) := by decide +kernel
theorem eX0_tallyGreys_40 : dec cX0_tallyGreys 40 (.iinc 1 1) 3 43 := ⟨dX0_tallyGreys_40, rfl⟩
theorem dX0_tallyGreys_43 : decode cX0_tallyGreys 43 = .ok (.goto (-33), 3) := by decide +kernel
theorem eX0_tallyGreys_43 : dec cX0_tallyGreys 43 (.goto (-33)) 3 46 := ⟨dX0_tallyGreys_43, rfl⟩
theorem dX0_tallyGreys_46 : decode cX0_tallyGreys 46 = .ok (.aload_n 0, 1) := by decide +kernel
theorem eX0_tallyGreys_46 : dec cX0_tallyGreys 46 (.aload_n 0) 1 47 := ⟨dX0_tallyGreys_46, rfl⟩
theorem dX0_tallyGreys_47 : decode cX0_tallyGreys 47 = .ok (.getfield 36, 3) := by decide +kernel
theorem eX0_tallyGreys_47 : dec cX0_tallyGreys 47 (.getfield 36) 3 50 := ⟨dX0_tallyGreys_47, rfl⟩
theorem dX0_tallyGreys_50 : decode cX0_tallyGreys 50 = .ok (.iconst 0, 1) := by decide +kernel
theorem eX0_tallyGreys_50 : dec cX0_tallyGreys 50 (.iconst 0) 1 51 := ⟨dX0_tallyGreys_50, rfl⟩
theorem dX0_tallyGreys_51 : decode cX0_tallyGreys 51 = .ok (.iconst 0, 1) := by decide +kernel
theorem eX0_tallyGreys_51 : dec cX0_tallyGreys 51 (.iconst 0) 1 52 := ⟨dX0_tallyGreys_51, rfl⟩
theorem dX0_tallyGreys_52 : decode cX0_tallyGreys 52 = .ok (.iastore, 1) := by decide +kernel
theorem eX0_tallyGreys_52 : dec cX0_tallyGreys 52 .iastore 1 53 := ⟨dX0_tallyGreys_52, rfl⟩
theorem dX0_tallyGreys_53 : decode cX0_tallyGreys 53 = .ok (.iconst 1, 1) := by decide +kernel
theorem eX0_tallyGreys_53 : dec cX0_tallyGreys 53 (.iconst 1) 1 54 := ⟨dX0_tallyGreys_53, rfl⟩
theorem dX0_tallyGreys_54 : decode cX0_tallyGreys 54 = .ok (.istore_n 1, 1) := by decide +kernel
theorem eX0_tallyGreys_54 : dec cX0_tallyGreys 54 (.istore_n 1) 1 55 := ⟨dX0_tallyGreys_54, rfl⟩
theorem dX0_tallyGreys_55 : decode cX0_tallyGreys 55 = .ok (.iload_n 1, 1) := by decide +kernel
theorem eX0_tallyGreys_55 : dec cX0_tallyGreys 55 (.iload_n 1) 1 56 := ⟨dX0_tallyGreys_55, rfl⟩
theorem dX0_tallyGreys_56 : decode cX0_tallyGreys 56 = .ok (.sipush 256, 3) := by decide +kernel
theorem eX0_tallyGreys_56 : dec cX0_tallyGreys 56 (.sipush 256) 3 59 := ⟨dX0_tallyGreys_56, rfl⟩
theorem dX0_tallyGreys_59 : decode cX0_tallyGreys 59 = .ok (.if_icmp .gt 51, 3) := by decide +kernel
theorem eX0_tallyGreys_59 : dec cX0_tallyGreys 59 (.if_icmp .gt 51) 3 62 := ⟨dX0_tallyGreys_59, rfl⟩
theorem dX0_tallyGreys_62 : decode cX0_tallyGreys 62 = .ok (.aload_n 0, 1) := by decide +kernel
theorem eX0_tallyGreys_62 : dec cX0_tallyGreys 62 (.aload_n 0) 1 63 := ⟨dX0_tallyGreys_62, rfl⟩
theorem dX0_tallyGreys_63 : decode cX0_tallyGreys 63 = .ok (.getfield 36, 3) := by decide +kernel
theorem eX0_tallyGreys_63 : dec cX0_tallyGreys 63 (.getfield 36) 3 66 := ⟨dX0_tallyGreys_63, rfl⟩
theorem dX0_tallyGreys_66 : decode cX0_tallyGreys 66 = .ok (.iload_n 1, 1) := by decide +kernel
theorem eX0_tallyGreys_66 : dec cX0_tallyGreys 66 (.iload_n 1) 1 67 := ⟨dX0_tallyGreys_66, rfl⟩
theorem dX0_tallyGreys_67 : decode cX0_tallyGreys 67 = .ok (.aload_n 0, 1) := by decide +kernel
theorem eX0_tallyGreys_67 : dec cX0_tallyGreys 67 (.aload_n 0) 1 68 := ⟨dX0_tallyGreys_67, rfl⟩
theorem dX0_tallyGreys_68 : decode cX0_tallyGreys 68 = .ok (.getfield 36, 3) := by decide +kernel
theorem eX0_tallyGreys_68 : dec cX0_tallyGreys 68 (.getfield 36) 3 71 := ⟨dX0_tallyGreys_68, rfl⟩
theorem dX0_tallyGreys_71 : decode cX0_tallyGreys 71 = .ok (.iload_n 1, 1) := by decide +kernel
theorem eX0_tallyGreys_71 : dec cX0_tallyGreys 71 (.iload_n 1) 1 72 := ⟨dX0_tallyGreys_71, rfl⟩
theorem dX0_tallyGreys_72 : decode cX0_tallyGreys 72 = .ok (.iconst 1, 1) := by decide +kernel
theorem eX0_tallyGreys_72 : dec cX0_tallyGreys 72 (.iconst 1) 1 73 := ⟨dX0_tallyGreys_72, rfl⟩
theorem dX0_tallyGreys_73 : decode cX0_tallyGreys 73 = .ok (.isub, 1) := by decide +kernel
theorem eX0_tallyGreys_73 : dec cX0_tallyGreys 73 .isub 1 74 := ⟨dX0_tallyGreys_73, rfl⟩
theorem dX0_tallyGreys_74 : decode cX0_tallyGreys 74 = .ok (.iaload, 1) := by decide +kernel
theorem eX0_tallyGreys_74 : dec cX0_tallyGreys 74 .iaload 1 75 := ⟨dX0_tallyGreys_74, rfl⟩
theorem dX0_tallyGreys_75 : decode cX0_tallyGreys 75 = .ok (.aload_n 0, 1) := by decide +kernel
theorem eX0_tallyGreys_75 : dec cX0_tallyGreys 75 (.aload_n 0) 1 76 := ⟨dX0_tallyGreys_75, rfl⟩
theorem dX0_tallyGreys_76 : decode cX0_tallyGreys 76 = .ok (.getfield 32, 3) := by decide +kernel
theorem eX0_tallyGreys_76 : dec cX0_tallyGreys 76 (.getfield 32) 3 79 := ⟨dX0_tallyGreys_76, rfl⟩
theorem dX0_tallyGreys_79 : decode cX0_tallyGreys 79 = .ok (.iload_n 1, 1) := by decide +kernel
theorem eX0_tallyGreys_79 : dec cX0_tallyGreys 79 (.iload_n 1) 1 80 := ⟨dX0_tallyGreys_79, rfl⟩
theorem dX0_tallyGreys_80 : decode cX0_tallyGreys 80 = .ok (.iaload, 1) := by decide +kernel
theorem eX0_tallyGreys_80 : dec cX0_tallyGreys 80 .iaload 1 81 := ⟨dX0_tallyGreys_80, rfl⟩
theorem dX0_tallyGreys_81 : decode cX0_tallyGreys 81 = .ok (.iload_n 1, 1) := by decide +kernel
theorem eX0_tallyGreys_81 : dec cX0_tallyGreys 81 (.iload_n 1) 1 82 := ⟨dX0_tallyGreys_81, rfl⟩
theorem dX0_tallyGreys_82 : decode cX0_tallyGreys 82 = .ok (.iconst 1, 1) := by decide +kernel
theorem eX0_tallyGreys_82 : dec cX0_tallyGreys 82 (.iconst 1) 1 83 := ⟨dX0_tallyGreys_82, rfl⟩
theorem dX0_tallyGreys_83 : decode cX0_tallyGreys 83 = .ok (.isub, 1) := by decide +kernel
theorem eX0_tallyGreys_83 : dec cX0_tallyGreys 83 .isub 1 84 := ⟨dX0_tallyGreys_83, rfl⟩
theorem dX0_tallyGreys_84 : decode cX0_tallyGreys 84 = .ok (.imul, 1) := by decide +kernel
theorem eX0_tallyGreys_84 : dec cX0_tallyGreys 84 .imul 1 85 := ⟨dX0_tallyGreys_84, rfl⟩
theorem dX0_tallyGreys_85 : decode cX0_tallyGreys 85 = .ok (.iadd, 1) := by decide +kernel
theorem eX0_tallyGreys_85 : dec cX0_tallyGreys 85 .iadd 1 86 := ⟨dX0_tallyGreys_85, rfl⟩
theorem dX0_tallyGreys_86 : decode cX0_tallyGreys 86 = .ok (.iastore, 1) := by decide +kernel
theorem eX0_tallyGreys_86 : dec cX0_tallyGreys 86 .iastore 1 87 := ⟨dX0_tallyGreys_86, rfl⟩
theorem dX0_tallyGreys_87 : decode cX0_tallyGreys 87 = .ok (.aload_n 0, 1) := by decide +kernel
theorem eX0_tallyGreys_87 : dec cX0_tallyGreys 87 (.aload_n 0) 1 88 := ⟨dX0_tallyGreys_87, rfl⟩
theorem dX0_tallyGreys_88 : decode cX0_tallyGreys 88 = .ok (.getfield 32, 3) := by decide +kernel
theorem eX0_tallyGreys_88 : dec cX0_tallyGreys 88 (.getfield 32) 3 91 := ⟨dX0_tallyGreys_88, rfl⟩
theorem dX0_tallyGreys_91 : decode cX0_tallyGreys 91 = .ok (.iload_n 1, 1) := by decide +kernel
theorem eX0_tallyGreys_91 : dec cX0_tallyGreys 91 (.iload_n 1) 1 92 := ⟨dX0_tallyGreys_91, rfl⟩
theorem dX0_tallyGreys_92 : decode cX0_tallyGreys 92 = .ok (.dup2, 1) := by decide +kernel
theorem eX0_tallyGreys_92 : dec cX0_tallyGreys 92 .dup2 1 93 := ⟨dX0_tallyGreys_92, rfl⟩
theorem dX0_tallyGreys_93 : decode cX0_tallyGreys 93 = .ok (.iaload, 1) := by decide +kernel
theorem eX0_tallyGreys_93 : dec cX0_tallyGreys 93 .iaload 1 94 := ⟨dX0_tallyGreys_93, rfl⟩
theorem dX0_tallyGreys_94 : decode cX0_tallyGreys 94 = .ok (.aload_n 0, 1) := by decide +kernel
theorem eX0_tallyGreys_94 : dec cX0_tallyGreys 94 (.aload_n 0) 1 95 := ⟨dX0_tallyGreys_94, rfl⟩
theorem dX0_tallyGreys_95 : decode cX0_tallyGreys 95 = .ok (.getfield 32, 3) := by decide +kernel
theorem eX0_tallyGreys_95 : dec cX0_tallyGreys 95 (.getfield 32) 3 98 := ⟨dX0_tallyGreys_95, rfl⟩
theorem dX0_tallyGreys_98 : decode cX0_tallyGreys 98 = .ok (.iload_n 1, 1) := by decide +kernel
theorem eX0_tallyGreys_98 : dec cX0_tallyGreys 98 (.iload_n 1) 1 99 := ⟨dX0_tallyGreys_98, rfl⟩
theorem dX0_tallyGreys_99 : decode cX0_tallyGreys 99 = .ok (.iconst 1, 1) := by decide +kernel
theorem eX0_tallyGreys_99 : dec cX0_tallyGreys 99 (.iconst 1) 1 100 := ⟨dX0_tallyGreys_99, rfl⟩
theorem dX0_tallyGreys_100 : decode cX0_tallyGreys 100 = .ok (.isub, 1) := by decide +kernel
theorem eX0_tallyGreys_100 : dec cX0_tallyGreys 100 .isub 1 101 := ⟨dX0_tallyGreys_100, rfl⟩
theorem dX0_tallyGreys_101 : decode cX0_tallyGreys 101 = .ok (.iaload, 1) := by decide +kernel
theorem eX0_tallyGreys_101 : dec cX0_tallyGreys 101 .iaload 1 102 := ⟨dX0_tallyGreys_101, rfl⟩
theorem dX0_tallyGreys_102 : decode cX0_tallyGreys 102 = .ok (.iadd, 1) := by decide +kernel
theorem eX0_tallyGreys_102 : dec cX0_tallyGreys 102 .iadd 1 103 := ⟨dX0_tallyGreys_102, rfl⟩
theorem dX0_tallyGreys_103 : decode cX0_tallyGreys 103 = .ok (.iastore, 1) := by decide +kernel
theorem eX0_tallyGreys_103 : dec cX0_tallyGreys 103 .iastore 1 104 := ⟨dX0_tallyGreys_103, rfl⟩
theorem dX0_tallyGreys_104 : decode cX0_tallyGreys 104 = .ok (.iinc 1 1, 3) := by decide +kernel
theorem eX0_tallyGreys_104 : dec cX0_tallyGreys 104 (.iinc 1 1) 3 107 := ⟨dX0_tallyGreys_104, rfl⟩
theorem dX0_tallyGreys_107 : decode cX0_tallyGreys 107 = .ok (.goto (-52), 3) := by decide +kernel
theorem eX0_tallyGreys_107 : dec cX0_tallyGreys 107 (.goto (-52)) 3 110 := ⟨dX0_tallyGreys_107, rfl⟩
theorem dX0_tallyGreys_110 : decode cX0_tallyGreys 110 = .ok (.return_, 1) := by decide +kernel
theorem eX0_tallyGreys_110 : dec cX0_tallyGreys 110 .return_ 1 111 := ⟨dX0_tallyGreys_110, rfl⟩
set_option maxRecDepth 20000 in
theorem ggX0_spreadAt_X0_spreadOfLot : GoodIn wsX0_spreadAt wsX0_spreadOfLot := goodIn_r _ [5, 6, 7, 8, 9, 10, 11, 12, 13, 14, 15, 16, 17, 18, 19, 20, 21, 22, 23] (by decide +kernel) (by decide +kernel)
set_option maxRecDepth 20000 in
theorem gX0_spreadAt_X0_spreadOfLot : GoodIn wsX0_spreadAt (wsV RX0 145 RX0 yX0_spreadOfLot wsX0_spreadOfLot) := goodIn_app (goodIn_of _ (by decide +kernel)) ggX0_spreadAt_X0_spreadOfLot
theorem dX0_spreadAt_0 : decode cX0_spreadAt 0 = .ok (.aload_n 0, 1) := by decide +kernel
theorem eX0_spreadAt_0 : dec cX0_spreadAt 0 (.aload_n 0) 1 1 := ⟨dX0_spreadAt_0, rfl⟩
theorem dX0_spreadAt_1 : decode cX0_spreadAt 1 = .ok (.iconst 0, 1) := by decide +kernel
theorem eX0_spreadAt_1 : dec cX0_spreadAt 1 (.iconst 0) 1 2 := ⟨dX0_spreadAt_1, rfl⟩
theorem dX0_spreadAt_2 : decode cX0_spreadAt 2 = .ok (.iload_n 1, 1) := by decide +kernel
theorem eX0_spreadAt_2 : dec cX0_spreadAt 2 (.iload_n 1) 1 3 := ⟨dX0_spreadAt_2, rfl⟩
theorem dX0_spreadAt_3 : decode cX0_spreadAt 3 = .ok (.iconst 1, 1) := by decide +kernel
theorem eX0_spreadAt_3 : dec cX0_spreadAt 3 (.iconst 1) 1 4 := ⟨dX0_spreadAt_3, rfl⟩
theorem dX0_spreadAt_4 : decode cX0_spreadAt 4 = .ok (.iadd, 1) := by decide +kernel
theorem eX0_spreadAt_4 : dec cX0_spreadAt 4 .iadd 1 5 := ⟨dX0_spreadAt_4, rfl⟩
theorem dX0_spreadAt_5 : decode cX0_spreadAt 5 = .ok (.invokevirtual 145, 3) := by decide +kernel
theorem eX0_spreadAt_5 : dec cX0_spreadAt 5 (.invokevirtual 145) 3 8 := ⟨dX0_spreadAt_5, rfl⟩
theorem dX0_spreadAt_8 : decode cX0_spreadAt 8 = .ok (.aload_n 0, 1) := by decide +kernel
theorem eX0_spreadAt_8 : dec cX0_spreadAt 8 (.aload_n 0) 1 9 := ⟨dX0_spreadAt_8, rfl⟩
theorem dX0_spreadAt_9 : decode cX0_spreadAt 9 = .ok (.iload_n 1, 1) := by decide +kernel
theorem eX0_spreadAt_9 : dec cX0_spreadAt 9 (.iload_n 1) 1 10 := ⟨dX0_spreadAt_9, rfl⟩
theorem dX0_spreadAt_10 : decode cX0_spreadAt 10 = .ok (.iconst 1, 1) := by decide +kernel
theorem eX0_spreadAt_10 : dec cX0_spreadAt 10 (.iconst 1) 1 11 := ⟨dX0_spreadAt_10, rfl⟩
theorem dX0_spreadAt_11 : decode cX0_spreadAt 11 = .ok (.iadd, 1) := by decide +kernel
theorem eX0_spreadAt_11 : dec cX0_spreadAt 11 .iadd 1 12 := ⟨dX0_spreadAt_11, rfl⟩
theorem dX0_spreadAt_12 : decode cX0_spreadAt 12 = .ok (.sipush 256, 3) := by decide +kernel
theorem eX0_spreadAt_12 : dec cX0_spreadAt 12 (.sipush 256) 3 15 := ⟨dX0_spreadAt_12, rfl⟩
theorem dX0_spreadAt_15 : decode cX0_spreadAt 15 = .ok (.invokevirtual 145, 3) := by decide +kernel
theorem eX0_spreadAt_15 : dec cX0_spreadAt 15 (.invokevirtual 145) 3 18 := ⟨dX0_spreadAt_15, rfl⟩
theorem dX0_spreadAt_18 : decode cX0_spreadAt 18 = .ok (.iadd, 1) := by decide +kernel
theorem eX0_spreadAt_18 : dec cX0_spreadAt 18 .iadd 1 19 := ⟨dX0_spreadAt_18, rfl⟩
theorem dX0_spreadAt_19 : decode cX0_spreadAt 19 = .ok (.ireturn, 1) := by decide +kernel
theorem eX0_spreadAt_19 : dec cX0_spreadAt 19 .ireturn 1 20 := ⟨dX0_spreadAt_19, rfl⟩
theorem dX0_spreadOfLot_0 : decode cX0_spreadOfLot 0 = .ok (.aload_n 0, 1) := by decide +kernel
theorem eX0_spreadOfLot_0 : dec cX0_spreadOfLot 0 (.aload_n 0) 1 1 := ⟨dX0_spreadOfLot_0, rfl⟩
theorem dX0_spreadOfLot_1 : decode cX0_spreadOfLot 1 = .ok (.getfield 32, 3) := by decide +kernel
theorem eX0_spreadOfLot_1 : dec cX0_spreadOfLot 1 (.getfield 32) 3 4 := ⟨dX0_spreadOfLot_1, rfl⟩
theorem dX0_spreadOfLot_4 : decode cX0_spreadOfLot 4 = .ok (.iload_n 2, 1) := by decide +kernel
theorem eX0_spreadOfLot_4 : dec cX0_spreadOfLot 4 (.iload_n 2) 1 5 := ⟨dX0_spreadOfLot_4, rfl⟩
theorem dX0_spreadOfLot_5 : decode cX0_spreadOfLot 5 = .ok (.iaload, 1) := by decide +kernel
theorem eX0_spreadOfLot_5 : dec cX0_spreadOfLot 5 .iaload 1 6 := ⟨dX0_spreadOfLot_5, rfl⟩
theorem dX0_spreadOfLot_6 : decode cX0_spreadOfLot 6 = .ok (.aload_n 0, 1) := by decide +kernel
theorem eX0_spreadOfLot_6 : dec cX0_spreadOfLot 6 (.aload_n 0) 1 7 := ⟨dX0_spreadOfLot_6, rfl⟩
theorem dX0_spreadOfLot_7 : decode cX0_spreadOfLot 7 = .ok (.getfield 32, 3) := by decide +kernel
theorem eX0_spreadOfLot_7 : dec cX0_spreadOfLot 7 (.getfield 32) 3 10 := ⟨dX0_spreadOfLot_7, rfl⟩
theorem dX0_spreadOfLot_10 : decode cX0_spreadOfLot 10 = .ok (.iload_n 1, 1) := by decide +kernel
theorem eX0_spreadOfLot_10 : dec cX0_spreadOfLot 10 (.iload_n 1) 1 11 := ⟨dX0_spreadOfLot_10, rfl⟩
theorem dX0_spreadOfLot_11 : decode cX0_spreadOfLot 11 = .ok (.iaload, 1) := by decide +kernel
theorem eX0_spreadOfLot_11 : dec cX0_spreadOfLot 11 .iaload 1 12 := ⟨dX0_spreadOfLot_11, rfl⟩
theorem dX0_spreadOfLot_12 : decode cX0_spreadOfLot 12 = .ok (.isub, 1) := by decide +kernel
theorem eX0_spreadOfLot_12 : dec cX0_spreadOfLot 12 .isub 1 13 := ⟨dX0_spreadOfLot_12, rfl⟩
theorem dX0_spreadOfLot_13 : decode cX0_spreadOfLot 13 = .ok (.istore_n 3, 1) := by decide +kernel
theorem eX0_spreadOfLot_13 : dec cX0_spreadOfLot 13 (.istore_n 3) 1 14 := ⟨dX0_spreadOfLot_13, rfl⟩
theorem dX0_spreadOfLot_14 : decode cX0_spreadOfLot 14 = .ok (.iload_n 3, 1) := by decide +kernel
theorem eX0_spreadOfLot_14 : dec cX0_spreadOfLot 14 (.iload_n 3) 1 15 := ⟨dX0_spreadOfLot_14, rfl⟩
theorem dX0_spreadOfLot_15 : decode cX0_spreadOfLot 15 = .ok (.ifCond .gt 5, 3) := by decide +kernel
theorem eX0_spreadOfLot_15 : dec cX0_spreadOfLot 15 (.ifCond .gt 5) 3 18 := ⟨dX0_spreadOfLot_15, rfl⟩
theorem dX0_spreadOfLot_18 : decode cX0_spreadOfLot 18 = .ok (.iconst 0, 1) := by decide +kernel
theorem eX0_spreadOfLot_18 : dec cX0_spreadOfLot 18 (.iconst 0) 1 19 := ⟨dX0_spreadOfLot_18, rfl⟩
theorem dX0_spreadOfLot_19 : decode cX0_spreadOfLot 19 = .ok (.ireturn, 1) := by decide +kernel
theorem eX0_spreadOfLot_19 : dec cX0_spreadOfLot 19 .ireturn 1 20 := ⟨dX0_spreadOfLot_19, rfl⟩
theorem dX0_spreadOfLot_20 : decode cX0_spreadOfLot 20 = .ok (.aload_n 0, 1) := by decide +kernel
theorem eX0_spreadOfLot_20 : dec cX0_spreadOfLot 20 (.aload_n 0) 1 21 := ⟨dX0_spreadOfLot_20, rfl⟩
theorem dX0_spreadOfLot_21 : decode cX0_spreadOfLot 21 = .ok (.getfield 36, 3) := by decide +kernel
theorem eX0_spreadOfLot_21 : dec cX0_spreadOfLot 21 (.getfield 36) 3 24 := ⟨dX0_spreadOfLot_21, rfl⟩
theorem dX0_spreadOfLot_24 : decode cX0_spreadOfLot 24 = .ok (.iload_n 2, 1) := by decide +kernel
theorem eX0_spreadOfLot_24 : dec cX0_spreadOfLot 24 (.iload_n 2) 1 25 := ⟨dX0_spreadOfLot_24, rfl⟩
theorem dX0_spreadOfLot_25 : decode cX0_spreadOfLot 25 = .ok (.iaload, 1) := by decide +kernel
theorem eX0_spreadOfLot_25 : dec cX0_spreadOfLot 25 .iaload 1 26 := ⟨dX0_spreadOfLot_25, rfl⟩
theorem dX0_spreadOfLot_26 : decode cX0_spreadOfLot 26 = .ok (.aload_n 0, 1) := by decide +kernel
theorem eX0_spreadOfLot_26 : dec cX0_spreadOfLot 26 (.aload_n 0) 1 27 := ⟨dX0_spreadOfLot_26, rfl⟩
theorem dX0_spreadOfLot_27 : decode cX0_spreadOfLot 27 = .ok (.getfield 36, 3) := by decide +kernel
theorem eX0_spreadOfLot_27 : dec cX0_spreadOfLot 27 (.getfield 36) 3 30 := ⟨dX0_spreadOfLot_27, rfl⟩
theorem dX0_spreadOfLot_30 : decode cX0_spreadOfLot 30 = .ok (.iload_n 1, 1) := by decide +kernel
theorem eX0_spreadOfLot_30 : dec cX0_spreadOfLot 30 (.iload_n 1) 1 31 := ⟨dX0_spreadOfLot_30, rfl⟩
theorem dX0_spreadOfLot_31 : decode cX0_spreadOfLot 31 = .ok (.iaload, 1) := by decide +kernel
theorem eX0_spreadOfLot_31 : dec cX0_spreadOfLot 31 .iaload 1 32 := ⟨dX0_spreadOfLot_31, rfl⟩
theorem dX0_spreadOfLot_32 : decode cX0_spreadOfLot 32 = .ok (.isub, 1) := by decide +kernel
theorem eX0_spreadOfLot_32 : dec cX0_spreadOfLot 32 .isub 1 33 := ⟨dX0_spreadOfLot_32, rfl⟩
theorem dX0_spreadOfLot_33 : decode cX0_spreadOfLot 33 = .ok (.iload_n 3, 1) := by decide +kernel
theorem eX0_spreadOfLot_33 : dec cX0_spreadOfLot 33 (.iload_n 3) 1 34 := ⟨dX0_spreadOfLot_33, rfl⟩
theorem dX0_spreadOfLot_34 : decode cX0_spreadOfLot 34 = .ok (.idiv, 1) := by decide +kernel
theorem eX0_spreadOfLot_34 : dec cX0_spreadOfLot 34 .idiv 1 35 := ⟨dX0_spreadOfLot_34, rfl⟩
theorem dX0_spreadOfLot_35 : decode cX0_spreadOfLot 35 = .ok (.istore 4, 2) := by decide +kernel
theorem eX0_spreadOfLot_35 : dec cX0_spreadOfLot 35 (.istore 4) 2 37 := ⟨dX0_spreadOfLot_35, rfl⟩
theorem dX0_spreadOfLot_37 : decode cX0_spreadOfLot 37 = .ok (.iload 4, 2) := by decide +kernel
theorem eX0_spreadOfLot_37 : dec cX0_spreadOfLot 37 (.iload 4) 2 39 := ⟨dX0_spreadOfLot_37, rfl⟩
theorem dX0_spreadOfLot_39 : decode cX0_spreadOfLot 39 = .ok (.iconst 1, 1) := by decide +kernel
theorem eX0_spreadOfLot_39 : dec cX0_spreadOfLot 39 (.iconst 1) 1 40 := ⟨dX0_spreadOfLot_39, rfl⟩
theorem dX0_spreadOfLot_40 : decode cX0_spreadOfLot 40 = .ok (.iadd, 1) := by decide +kernel
theorem eX0_spreadOfLot_40 : dec cX0_spreadOfLot 40 .iadd 1 41 := ⟨dX0_spreadOfLot_40, rfl⟩
theorem dX0_spreadOfLot_41 : decode cX0_spreadOfLot 41 = .ok (.istore 5, 2) := by decide +kernel
theorem eX0_spreadOfLot_41 : dec cX0_spreadOfLot 41 (.istore 5) 2 43 := ⟨dX0_spreadOfLot_41, rfl⟩
theorem dX0_spreadOfLot_43 : decode cX0_spreadOfLot 43 = .ok (.iload 4, 2) := by decide +kernel
theorem eX0_spreadOfLot_43 : dec cX0_spreadOfLot 43 (.iload 4) 2 45 := ⟨dX0_spreadOfLot_43, rfl⟩
theorem dX0_spreadOfLot_45 : decode cX0_spreadOfLot 45 = .ok (.aload_n 0, 1) := by decide +kernel
theorem eX0_spreadOfLot_45 : dec cX0_spreadOfLot 45 (.aload_n 0) 1 46 := ⟨dX0_spreadOfLot_45, rfl⟩
theorem dX0_spreadOfLot_46 : decode cX0_spreadOfLot 46 = .ok (.getfield 32, 3) := by decide +kernel
theorem eX0_spreadOfLot_46 : dec cX0_spreadOfLot 46 (.getfield 32) 3 49 := ⟨dX0_spreadOfLot_46, rfl⟩
theorem dX0_spreadOfLot_49 : decode cX0_spreadOfLot 49 = .ok (.iload 5, 2) := by decide +kernel
theorem eX0_spreadOfLot_49 : dec cX0_spreadOfLot 49 (.iload 5) 2 51 := ⟨dX0_spreadOfLot_49, rfl⟩
theorem dX0_spreadOfLot_51 : decode cX0_spreadOfLot 51 = .ok (.iaload, 1) := by decide +kernel
theorem eX0_spreadOfLot_51 : dec cX0_spreadOfLot 51 .iaload 1 52 := ⟨dX0_spreadOfLot_51, rfl⟩
theorem dX0_spreadOfLot_52 : decode cX0_spreadOfLot 52 = .ok (.aload_n 0, 1) := by decide +kernel
theorem eX0_spreadOfLot_52 : dec cX0_spreadOfLot 52 (.aload_n 0) 1 53 := ⟨dX0_spreadOfLot_52, rfl⟩
theorem dX0_spreadOfLot_53 : decode cX0_spreadOfLot 53 = .ok (.getfield 32, 3) := by decide +kernel
theorem eX0_spreadOfLot_53 : dec cX0_spreadOfLot 53 (.getfield 32) 3 56 := ⟨dX0_spreadOfLot_53, rfl⟩
theorem dX0_spreadOfLot_56 : decode cX0_spreadOfLot 56 = .ok (.iload_n 1, 1) := by decide +kernel
theorem eX0_spreadOfLot_56 : dec cX0_spreadOfLot 56 (.iload_n 1) 1 57 := ⟨dX0_spreadOfLot_56, rfl⟩
theorem dX0_spreadOfLot_57 : decode cX0_spreadOfLot 57 = .ok (.iaload, 1) := by decide +kernel
theorem eX0_spreadOfLot_57 : dec cX0_spreadOfLot 57 .iaload 1 58 := ⟨dX0_spreadOfLot_57, rfl⟩
theorem dX0_spreadOfLot_58 : decode cX0_spreadOfLot 58 = .ok (.isub, 1) := by decide +kernel
theorem eX0_spreadOfLot_58 : dec cX0_spreadOfLot 58 .isub 1 59 := ⟨dX0_spreadOfLot_58, rfl⟩
theorem dX0_spreadOfLot_59 : decode cX0_spreadOfLot 59 = .ok (.imul, 1) := by decide +kernel
theorem eX0_spreadOfLot_59 : dec cX0_spreadOfLot 59 .imul 1 60 := ⟨dX0_spreadOfLot_59, rfl⟩
theorem dX0_spreadOfLot_60 : decode cX0_spreadOfLot 60 = .ok (.aload_n 0, 1) := by decide +kernel
theorem eX0_spreadOfLot_60 : dec cX0_spreadOfLot 60 (.aload_n 0) 1 61 := ⟨dX0_spreadOfLot_60, rfl⟩
theorem dX0_spreadOfLot_61 : decode cX0_spreadOfLot 61 = .ok (.getfield 36, 3) := by decide +kernel
theorem eX0_spreadOfLot_61 : dec cX0_spreadOfLot 61 (.getfield 36) 3 64 := ⟨dX0_spreadOfLot_61, rfl⟩
theorem dX0_spreadOfLot_64 : decode cX0_spreadOfLot 64 = .ok (.iload 5, 2) := by decide +kernel
theorem eX0_spreadOfLot_64 : dec cX0_spreadOfLot 64 (.iload 5) 2 66 := ⟨dX0_spreadOfLot_64, rfl⟩
theorem dX0_spreadOfLot_66 : decode cX0_spreadOfLot 66 = .ok (.iaload, 1) := by decide +kernel
theorem eX0_spreadOfLot_66 : dec cX0_spreadOfLot 66 .iaload 1 67 := ⟨dX0_spreadOfLot_66, rfl⟩
theorem dX0_spreadOfLot_67 : decode cX0_spreadOfLot 67 = .ok (.aload_n 0, 1) := by decide +kernel
theorem eX0_spreadOfLot_67 : dec cX0_spreadOfLot 67 (.aload_n 0) 1 68 := ⟨dX0_spreadOfLot_67, rfl⟩
theorem dX0_spreadOfLot_68 : decode cX0_spreadOfLot 68 = .ok (.getfield 36, 3) := by decide +kernel
theorem eX0_spreadOfLot_68 : dec cX0_spreadOfLot 68 (.getfield 36) 3 71 := ⟨dX0_spreadOfLot_68, rfl⟩
theorem dX0_spreadOfLot_71 : decode cX0_spreadOfLot 71 = .ok (.iload_n 1, 1) := by decide +kernel
theorem eX0_spreadOfLot_71 : dec cX0_spreadOfLot 71 (.iload_n 1) 1 72 := ⟨dX0_spreadOfLot_71, rfl⟩
theorem dX0_spreadOfLot_72 : decode cX0_spreadOfLot 72 = .ok (.iaload, 1) := by decide +kernel
theorem eX0_spreadOfLot_72 : dec cX0_spreadOfLot 72 .iaload 1 73 := ⟨dX0_spreadOfLot_72, rfl⟩
theorem dX0_spreadOfLot_73 : decode cX0_spreadOfLot 73 = .ok (.isub, 1) := by decide +kernel
theorem eX0_spreadOfLot_73 : dec cX0_spreadOfLot 73 .isub 1 74 := ⟨dX0_spreadOfLot_73, rfl⟩
theorem dX0_spreadOfLot_74 : decode cX0_spreadOfLot 74 = .ok (.isub, 1) := by decide +kernel
theorem eX0_spreadOfLot_74 : dec cX0_spreadOfLot 74 .isub 1 75 := ⟨dX0_spreadOfLot_74, rfl⟩
theorem dX0_spreadOfLot_75 : decode cX0_spreadOfLot 75 = .ok (.istore 6, 2) := by decide +kernel
theorem eX0_spreadOfLot_75 : dec cX0_spreadOfLot 75 (.istore 6) 2 77 := ⟨dX0_spreadOfLot_75, rfl⟩
theorem dX0_spreadOfLot_77 : decode cX0_spreadOfLot 77 = .ok (.aload_n 0, 1) := by decide +kernel
theorem eX0_spreadOfLot_77 : dec cX0_spreadOfLot 77 (.aload_n 0) 1 78 := ⟨dX0_spreadOfLot_77, rfl⟩
theorem dX0_spreadOfLot_78 : decode cX0_spreadOfLot 78 = .ok (.getfield 36, 3) := by decide +kernel
theorem eX0_spreadOfLot_78 : dec cX0_spreadOfLot 78 (.getfield 36) 3 81 := ⟨dX0_spreadOfLot_78, rfl⟩
theorem dX0_spreadOfLot_81 : decode cX0_spreadOfLot 81 = .ok (.iload_n 2, 1) := by decide +kernel
theorem eX0_spreadOfLot_81 : dec cX0_spreadOfLot 81 (.iload_n 2) 1 82 := ⟨dX0_spreadOfLot_81, rfl⟩
theorem dX0_spreadOfLot_82 : decode cX0_spreadOfLot 82 = .ok (.iaload, 1) := by decide +kernel
theorem eX0_spreadOfLot_82 : dec cX0_spreadOfLot 82 .iaload 1 83 := ⟨dX0_spreadOfLot_82, rfl⟩
theorem dX0_spreadOfLot_83 : decode cX0_spreadOfLot 83 = .ok (.aload_n 0, 1) := by decide +kernel
theorem eX0_spreadOfLot_83 : dec cX0_spreadOfLot 83 (.aload_n 0) 1 84 := ⟨dX0_spreadOfLot_83, rfl⟩
theorem dX0_spreadOfLot_84 : decode cX0_spreadOfLot 84 = .ok (.getfield 36, 3) := by decide +kernel
theorem eX0_spreadOfLot_84 : dec cX0_spreadOfLot 84 (.getfield 36) 3 87 := ⟨dX0_spreadOfLot_84, rfl⟩
theorem dX0_spreadOfLot_87 : decode cX0_spreadOfLot 87 = .ok (.iload 5, 2) := by decide +kernel
theorem eX0_spreadOfLot_87 : dec cX0_spreadOfLot 87 (.iload 5) 2 89 := ⟨dX0_spreadOfLot_87, rfl⟩
theorem dX0_spreadOfLot_89 : decode cX0_spreadOfLot 89 = .ok (.iaload, 1) := by decide +kernel
theorem eX0_spreadOfLot_89 : dec cX0_spreadOfLot 89 .iaload 1 90 := ⟨dX0_spreadOfLot_89, rfl⟩
theorem dX0_spreadOfLot_90 : decode cX0_spreadOfLot 90 = .ok (.isub, 1) := by decide +kernel
theorem eX0_spreadOfLot_90 : dec cX0_spreadOfLot 90 .isub 1 91 := ⟨dX0_spreadOfLot_90, rfl⟩
theorem dX0_spreadOfLot_91 : decode cX0_spreadOfLot 91 = .ok (.iload 4, 2) := by decide +kernel
theorem eX0_spreadOfLot_91 : dec cX0_spreadOfLot 91 (.iload 4) 2 93 := ⟨dX0_spreadOfLot_91, rfl⟩
theorem dX0_spreadOfLot_93 : decode cX0_spreadOfLot 93 = .ok (.aload_n 0, 1) := by decide +kernel
theorem eX0_spreadOfLot_93 : dec cX0_spreadOfLot 93 (.aload_n 0) 1 94 := ⟨dX0_spreadOfLot_93, rfl⟩
theorem dX0_spreadOfLot_94 : decode cX0_spreadOfLot 94 = .ok (.getfield 32, 3) := by decide +kernel
theorem eX0_spreadOfLot_94 : dec cX0_spreadOfLot 94 (.getfield 32) 3 97 := ⟨dX0_spreadOfLot_94, rfl⟩
theorem dX0_spreadOfLot_97 : decode cX0_spreadOfLot 97 = .ok (.iload_n 2, 1) := by decide +kernel
theorem eX0_spreadOfLot_97 : dec cX0_spreadOfLot 97 (.iload_n 2) 1 98 := ⟨dX0_spreadOfLot_97, rfl⟩
theorem dX0_spreadOfLot_98 : decode cX0_spreadOfLot 98 = .ok (.iaload, 1) := by decide +kernel
theorem eX0_spreadOfLot_98 : dec cX0_spreadOfLot 98 .iaload 1 99 := ⟨dX0_spreadOfLot_98, rfl⟩
theorem dX0_spreadOfLot_99 : decode cX0_spreadOfLot 99 = .ok (.aload_n 0, 1) := by decide +kernel
theorem eX0_spreadOfLot_99 : dec cX0_spreadOfLot 99 (.aload_n 0) 1 100 := ⟨dX0_spreadOfLot_99, rfl⟩
theorem dX0_spreadOfLot_100 : decode cX0_spreadOfLot 100 = .ok (.getfield 32, 3) := by decide +kernel
theorem eX0_spreadOfLot_100 : dec cX0_spreadOfLot 100 (.getfield 32) 3 103 := ⟨dX0_spreadOfLot_100, rfl⟩
theorem dX0_spreadOfLot_103 : decode cX0_spreadOfLot 103 = .ok (.iload 5, 2) := by decide +kernel
theorem eX0_spreadOfLot_103 : dec cX0_spreadOfLot 103 (.iload 5) 2 105 := ⟨dX0_spreadOfLot_103, rfl⟩
theorem dX0_spreadOfLot_105 : decode cX0_spreadOfLot 105 = .ok (.iaload, 1) := by decide +kernel
theorem eX0_spreadOfLot_105 : dec cX0_spreadOfLot 105 .iaload 1 106 := ⟨dX0_spreadOfLot_105, rfl⟩
theorem dX0_spreadOfLot_106 : decode cX0_spreadOfLot 106 = .ok (.isub, 1) := by decide +kernel
theorem eX0_spreadOfLot_106 : dec cX0_spreadOfLot 106 .isub 1 107 := ⟨dX0_spreadOfLot_106, rfl⟩
theorem dX0_spreadOfLot_107 : decode cX0_spreadOfLot 107 = .ok (.imul, 1) := by decide +kernel
theorem eX0_spreadOfLot_107 : dec cX0_spreadOfLot 107 .imul 1 108 := ⟨dX0_spreadOfLot_107, rfl⟩
theorem dX0_spreadOfLot_108 : decode cX0_spreadOfLot 108 = .ok (.isub, 1) := by decide +kernel
theorem eX0_spreadOfLot_108 : dec cX0_spreadOfLot 108 .isub 1 109 := ⟨dX0_spreadOfLot_108, rfl⟩
theorem dX0_spreadOfLot_109 : decode cX0_spreadOfLot 109 = .ok (.istore 7, 2) := by decide +kernel
theorem eX0_spreadOfLot_109 : dec cX0_spreadOfLot 109 (.istore 7) 2 111 := ⟨dX0_spreadOfLot_109, rfl⟩
theorem dX0_spreadOfLot_111 : decode cX0_spreadOfLot 111 = .ok (.iload 6, 2) := by decide +kernel
theorem eX0_spreadOfLot_111 : dec cX0_spreadOfLot 111 (.iload 6) 2 113 := ⟨dX0_spreadOfLot_111, rfl⟩
theorem dX0_spreadOfLot_113 : decode cX0_spreadOfLot 113 = .ok (.iload 7, 2) := by decide +kernel
theorem eX0_spreadOfLot_113 : dec cX0_spreadOfLot 113 (.iload 7) 2 115 := ⟨dX0_spreadOfLot_113, rfl⟩
theorem dX0_spreadOfLot_115 : decode cX0_spreadOfLot 115 = .ok (.iadd, 1) := by decide +kernel
theorem eX0_spreadOfLot_115 : dec cX0_spreadOfLot 115 .iadd 1 116 := ⟨dX0_spreadOfLot_115, rfl⟩
theorem dX0_spreadOfLot_116 : decode cX0_spreadOfLot 116 = .ok (.ireturn, 1) := by decide +kernel
theorem eX0_spreadOfLot_116 : dec cX0_spreadOfLot 116 .ireturn 1 117 := ⟨dX0_spreadOfLot_116, rfl⟩
theorem dX0_hasMostlyLow_0 : decode cX0_hasMostlyLow 0 = .ok (.iconst 2, 1) := by decide +kernel
theorem eX0_hasMostlyLow_0 : dec cX0_hasMostlyLow 0 (.iconst 2) 1 1 := ⟨dX0_hasMostlyLow_0, rfl⟩
theorem dX0_hasMostlyLow_1 : decode cX0_hasMostlyLow 1 = .ok (.aload_n 0, 1) := by decide +kernel
theorem eX0_hasMostlyLow_1 : dec cX0_hasMostlyLow 1 (.aload_n 0) 1 2 := ⟨dX0_hasMostlyLow_1, rfl⟩
theorem dX0_hasMostlyLow_2 : decode cX0_hasMostlyLow 2 = .ok (.getfield 32, 3) := by decide +kernel
theorem eX0_hasMostlyLow_2 : dec cX0_hasMostlyLow 2 (.getfield 32) 3 5 := ⟨dX0_hasMostlyLow_2, rfl⟩
theorem dX0_hasMostlyLow_5 : decode cX0_hasMostlyLow 5 = .ok (.iload_n 1, 1) := by decide +kernel
theorem eX0_hasMostlyLow_5 : dec cX0_hasMostlyLow 5 (.iload_n 1) 1 6 := ⟨dX0_hasMostlyLow_5, rfl⟩
theorem dX0_hasMostlyLow_6 : decode cX0_hasMostlyLow 6 = .ok (.iconst 1, 1) := by decide +kernel
theorem eX0_hasMostlyLow_6 : dec cX0_hasMostlyLow 6 (.iconst 1) 1 7 := ⟨dX0_hasMostlyLow_6, rfl⟩
theorem dX0_hasMostlyLow_7 : decode cX0_hasMostlyLow 7 = .ok (.iadd, 1) := by decide +kernel
theorem eX0_hasMostlyLow_7 : dec cX0_hasMostlyLow 7 .iadd 1 8 := ⟨dX0_hasMostlyLow_7, rfl⟩
theorem dX0_hasMostlyLow_8 : decode cX0_hasMostlyLow 8 = .ok (.iaload, 1) := by decide +kernel
theorem eX0_hasMostlyLow_8 : dec cX0_hasMostlyLow 8 .iaload 1 9 := ⟨dX0_hasMostlyLow_8, rfl⟩
theorem dX0_hasMostlyLow_9 : decode cX0_hasMostlyLow 9 = .ok (.imul, 1) := by decide +kernel
theorem eX0_hasMostlyLow_9 : dec cX0_hasMostlyLow 9 .imul 1 10 := ⟨dX0_hasMostlyLow_9, rfl⟩
theorem dX0_hasMostlyLow_10 : decode cX0_hasMostlyLow 10 = .ok (.aload_n 0, 1) := by decide +kernel
theorem eX0_hasMostlyLow_10 : dec cX0_hasMostlyLow 10 (.aload_n 0) 1 11 := ⟨dX0_hasMostlyLow_10, rfl⟩
theorem dX0_hasMostlyLow_11 : decode cX0_hasMostlyLow 11 = .ok (.getfield 25, 3) := by decide +kernel
theorem eX0_hasMostlyLow_11 : dec cX0_hasMostlyLow 11 (.getfield 25) 3 14 := ⟨dX0_hasMostlyLow_11, rfl⟩
theorem dX0_hasMostlyLow_14 : decode cX0_hasMostlyLow 14 = .ok (.arraylength, 1) := by decide +kernel
theorem eX0_hasMostlyLow_14 : dec cX0_hasMostlyLow 14 .arraylength 1 15 := ⟨dX0_hasMostlyLow_14, rfl⟩
theorem dX0_hasMostlyLow_15 : decode cX0_hasMostlyLow 15 = .ok (.if_icmp .le 7, 3) := by decide +kernel
theorem eX0_hasMostlyLow_15 : dec cX0_hasMostlyLow 15 (.if_icmp .le 7) 3 18 := ⟨dX0_hasMostlyLow_15, rfl⟩
theorem dX0_hasMostlyLow_18 : decode cX0_hasMostlyLow 18 = .ok (.iconst 1, 1) := by decide +kernel
theorem eX0_hasMostlyLow_18 : dec cX0_hasMostlyLow 18 (.iconst 1) 1 19 := ⟨dX0_hasMostlyLow_18, rfl⟩
theorem dX0_hasMostlyLow_19 : decode cX0_hasMostlyLow 19 = .ok (.goto 4, 3) := by decide +kernel
theorem eX0_hasMostlyLow_19 : dec cX0_hasMostlyLow 19 (.goto 4) 3 22 := ⟨dX0_hasMostlyLow_19, rfl⟩
theorem dX0_hasMostlyLow_22 : decode cX0_hasMostlyLow 22 = .ok (.iconst 0, 1) := by decide +kernel
theorem eX0_hasMostlyLow_22 : dec cX0_hasMostlyLow 22 (.iconst 0) 1 23 := ⟨dX0_hasMostlyLow_22, rfl⟩
theorem dX0_hasMostlyLow_23 : decode cX0_hasMostlyLow 23 = .ok (.ireturn, 1) := by decide +kernel
theorem eX0_hasMostlyLow_23 : dec cX0_hasMostlyLow 23 .ireturn 1 24 := ⟨dX0_hasMostlyLow_23, rfl⟩
set_option maxRecDepth 20000 in
theorem ggX0_markDark_X0_threshold : GoodIn wsX0_markDark wsX0_threshold := goodIn_r _ [7, 8, 9, 10, 6, 11, 12, 1, 13, 14, 15, 16, 17, 18, 19, 20, 21, 22, 23, 24, 25, 30, 31, 32, 33, 34, 35, 36, 37, 38, 39, 40, 41, 42, 43, 44, 45] (by decide +kernel) (by decide +kernel)
set_option maxRecDepth 20000 in
theorem gX0_markDark_X0_threshold : GoodIn wsX0_markDark (wsV RX0 135 RX0 yX0_threshold wsX0_threshold) := goodIn_app (goodIn_of _ (by decide +kernel)) ggX0_markDark_X0_threshold
set_option maxRecDepth 20000 in
theorem ggX0_markDark_X0_hasMostlyLow : GoodIn wsX0_markDark wsX0_hasMostlyLow := goodIn_r _ [29, 12, 1, 30, 31, 32, 33, 34, 35, 36, 37, 38, 39, 40, 41, 42, 43, 44, 45] (by decide +kernel) (by decide +kernel)
set_option maxRecDepth 20000 in
theorem gX0_markDark_X0_hasMostlyLow : GoodIn wsX0_markDark (wsV RX0 138 RX0 yX0_hasMostlyLow wsX0_hasMostlyLow) := goodIn_app (goodIn_of _ (by decide +kernel)) ggX0_markDark_X0_hasMostlyLow
theorem dX0_markDark_0 : decode cX0_markDark 0 = .ok (.aload_n 0, 1) := by decide +kernel
theorem eX0_markDark_0 : dec cX0_markDark 0 (.aload_n 0) 1 1 := ⟨dX0_markDark_0, rfl⟩
theorem dX0_markDark_1 : decode cX0_markDark 1 = .ok (.invokevirtual 135, 3) := by decide +kernel
theorem eX0_markDark_1 : dec cX0_markDark 1 (.invokevirtual 135) 3 4 := ⟨dX0_markDark_1, rfl⟩
theorem dX0_markDark_4 : decode cX0_markDark 4 = .ok (.istore_n 1, 1) := by decide +kernel
theorem eX0_markDark_4 : dec cX0_markDark 4 (.istore_n 1) 1 5 := ⟨dX0_markDark_4, rfl⟩
theorem dX0_markDark_5 : decode cX0_markDark 5 = .ok (.aload_n 0, 1) := by decide +kernel
theorem eX0_markDark_5 : dec cX0_markDark 5 (.aload_n 0) 1 6 := ⟨dX0_markDark_5, rfl⟩
theorem dX0_markDark_6 : decode cX0_markDark 6 = .ok (.iload_n 1, 1) := by decide +kernel
theorem eX0_markDark_6 : dec cX0_markDark 6 (.iload_n 1) 1 7 := ⟨dX0_markDark_6, rfl⟩
theorem dX0_markDark_7 : decode cX0_markDark 7 = .ok (.invokevirtual 138, 3) := by decide +kernel
theorem eX0_markDark_7 : dec cX0_markDark 7 (.invokevirtual 138) 3 10 := ⟨dX0_markDark_7, rfl⟩
theorem dX0_markDark_10 : decode cX0_markDark 10 = .ok (.ifCond .ne 7, 3) := by decide +kernel
theorem eX0_markDark_10 : dec cX0_markDark 10 (.ifCond .ne 7) 3 13 := ⟨dX0_markDark_10, rfl⟩
theorem dX0_markDark_13 : decode cX0_markDark 13 = .ok (.iconst 1, 1) := by decide +kernel
theorem eX0_markDark_13 : dec cX0_markDark 13 (.iconst 1) 1 14 := ⟨dX0_markDark_13, rfl⟩
theorem dX0_markDark_14 : decode cX0_markDark 14 = .ok (.goto 4, 3) := by decide +kernel
theorem eX0_markDark_14 : dec cX0_markDark 14 (.goto 4) 3 17 := ⟨dX0_markDark_14, rfl⟩
theorem dX0_markDark_17 : decode cX0_markDark 17 = .ok (.iconst 0, 1) := by decide +kernel
theorem eX0_markDark_17 : dec cX0_markDark 17 (.iconst 0) 1 18 := ⟨dX0_markDark_17, rfl⟩
theorem dX0_markDark_18 : decode cX0_markDark 18 = .ok (.istore_n 2, 1) := by decide +kernel
theorem eX0_markDark_18 : dec cX0_markDark 18 (.istore_n 2) 1 19 := ⟨dX0_markDark_18, rfl⟩
theorem dX0_markDark_19 : decode cX0_markDark 19 = .ok (.iconst 0, 1) := by decide +kernel
theorem eX0_markDark_19 : dec cX0_markDark 19 (.iconst 0) 1 20 := ⟨dX0_markDark_19, rfl⟩
theorem dX0_markDark_20 : decode cX0_markDark 20 = .ok (.istore_n 3, 1) := by decide +kernel
theorem eX0_markDark_20 : dec cX0_markDark 20 (.istore_n 3) 1 21 := ⟨dX0_markDark_20, rfl⟩
theorem dX0_markDark_21 : decode cX0_markDark 21 = .ok (.iload_n 3, 1) := by decide +kernel
theorem eX0_markDark_21 : dec cX0_markDark 21 (.iload_n 3) 1 22 := ⟨dX0_markDark_21, rfl⟩
theorem dX0_markDark_22 : decode cX0_markDark 22 = .ok (.aload_n 0, 1) := by decide +kernel
theorem eX0_markDark_22 : dec cX0_markDark 22 (.aload_n 0) 1 23 := ⟨dX0_markDark_22, rfl⟩
theorem dX0_markDark_23 : decode cX0_markDark 23 = .ok (.getfield 25, 3) := by decide +kernel
theorem eX0_markDark_23 : dec cX0_markDark 23 (.getfield 25) 3 26 := ⟨dX0_markDark_23, rfl⟩
theorem dX0_markDark_26 : decode cX0_markDark 26 = .ok (.arraylength, 1) := by decide +kernel
theorem eX0_markDark_26 : dec cX0_markDark 26 .arraylength 1 27 := ⟨dX0_markDark_26, rfl⟩
theorem dX0_markDark_27 : decode cX0_markDark 27 = .ok (.if_icmp .ge 47, 3) := by decide +kernel
theorem eX0_markDark_27 : dec cX0_markDark 27 (.if_icmp .ge 47) 3 30 := ⟨dX0_markDark_27, rfl⟩
theorem dX0_markDark_30 : decode cX0_markDark 30 = .ok (.aload_n 0, 1) := by decide +kernel
theorem eX0_markDark_30 : dec cX0_markDark 30 (.aload_n 0) 1 31 := ⟨dX0_markDark_30, rfl⟩
theorem dX0_markDark_31 : decode cX0_markDark 31 = .ok (.getfield 25, 3) := by decide +kernel
theorem eX0_markDark_31 : dec cX0_markDark 31 (.getfield 25) 3 34 := ⟨dX0_markDark_31, rfl⟩
theorem dX0_markDark_34 : decode cX0_markDark 34 = .ok (.iload_n 3, 1) := by decide +kernel
theorem eX0_markDark_34 : dec cX0_markDark 34 (.iload_n 3) 1 35 := ⟨dX0_markDark_34, rfl⟩
theorem dX0_markDark_35 : decode cX0_markDark 35 = .ok (.baload, 1) := by decide +kernel
theorem eX0_markDark_35 : dec cX0_markDark 35 .baload 1 36 := ⟨dX0_markDark_35, rfl⟩
theorem dX0_markDark_36 : decode cX0_markDark 36 = .ok (.sipush 255, 3) := by decide +kernel
theorem eX0_markDark_36 : dec cX0_markDark 36 (.sipush 255) 3 39 := ⟨dX0_markDark_36, rfl⟩
theorem dX0_markDark_39 : decode cX0_markDark 39 = .ok (.iand, 1) := by decide +kernel
theorem eX0_markDark_39 : dec cX0_markDark 39 .iand 1 40 := ⟨dX0_markDark_39, rfl⟩
theorem dX0_markDark_40 : decode cX0_markDark 40 = .ok (.iload_n 1, 1) := by decide +kernel
theorem eX0_markDark_40 : dec cX0_markDark 40 (.iload_n 1) 1 41 := ⟨dX0_markDark_40, rfl⟩
theorem dX0_markDark_41 : decode cX0_markDark 41 = .ok (.if_icmp .gt 7, 3) := by decide +kernel
theorem eX0_markDark_41 : dec cX0_markDark 41 (.if_icmp .gt 7) 3 44 := ⟨dX0_markDark_41, rfl⟩
theorem dX0_markDark_44 : decode cX0_markDark 44 = .ok (.iconst 1, 1) := by decide +kernel
theorem eX0_markDark_44 : dec cX0_markDark 44 (.iconst 1) 1 45 := ⟨dX0_markDark_44, rfl⟩
theorem dX0_markDark_45 : decode cX0_markDark 45 = .ok (.goto 4, 3) := by decide +kernel
theorem eX0_markDark_45 : dec cX0_markDark 45 (.goto 4) 3 48 := ⟨dX0_markDark_45, rfl⟩
theorem dX0_markDark_48 : decode cX0_markDark 48 = .ok (.iconst 0, 1) := by decide +kernel
theorem eX0_markDark_48 : dec cX0_markDark 48 (.iconst 0) 1 49 := ⟨dX0_markDark_48, rfl⟩
theorem dX0_markDark_49 : decode cX0_markDark 49 = .ok (.istore 4, 2) := by decide +kernel
theorem eX0_markDark_49 : dec cX0_markDark 49 (.istore 4) 2 51 := ⟨dX0_markDark_49, rfl⟩
theorem dX0_markDark_51 : decode cX0_markDark 51 = .ok (.aload_n 0, 1) := by decide +kernel
theorem eX0_markDark_51 : dec cX0_markDark 51 (.aload_n 0) 1 52 := ⟨dX0_markDark_51, rfl⟩
theorem dX0_markDark_52 : decode cX0_markDark 52 = .ok (.getfield 39, 3) := by decide +kernel
theorem eX0_markDark_52 : dec cX0_markDark 52 (.getfield 39) 3 55 := ⟨dX0_markDark_52, rfl⟩
theorem dX0_markDark_55 : decode cX0_markDark 55 = .ok (.iload_n 3, 1) := by decide +kernel
theorem eX0_markDark_55 : dec cX0_markDark 55 (.iload_n 3) 1 56 := ⟨dX0_markDark_55, rfl⟩
theorem dX0_markDark_56 : decode cX0_markDark 56 = .ok (.iload 4, 2) := by decide +kernel
theorem eX0_markDark_56 : dec cX0_markDark 56 (.iload 4) 2 58 := ⟨dX0_markDark_56, rfl⟩
theorem dX0_markDark_58 : decode cX0_markDark 58 = .ok (.iload_n 2, 1) := by decide +kernel
theorem eX0_markDark_58 : dec cX0_markDark 58 (.iload_n 2) 1 59 := ⟨dX0_markDark_58, rfl⟩
theorem dX0_markDark_59 : decode cX0_markDark 59 = .ok (.if_icmp .ne 7, 3) := by decide +kernel
theorem eX0_markDark_59 : dec cX0_markDark 59 (.if_icmp .ne 7) 3 62 := ⟨dX0_markDark_59, rfl⟩
theorem dX0_markDark_62 : decode cX0_markDark 62 = .ok (.iconst 1, 1) := by decide +kernel
theorem eX0_markDark_62 : dec cX0_markDark 62 (.iconst 1) 1 63 := ⟨dX0_markDark_62, rfl⟩
theorem dX0_markDark_63 : decode cX0_markDark 63 = .ok (.goto 4, 3) := by decide +kernel
theorem eX0_markDark_63 : dec cX0_markDark 63 (.goto 4) 3 66 := ⟨dX0_markDark_63, rfl⟩
theorem dX0_markDark_66 : decode cX0_markDark 66 = .ok (.iconst 0, 1) := by decide +kernel
theorem eX0_markDark_66 : dec cX0_markDark 66 (.iconst 0) 1 67 := ⟨dX0_markDark_66, rfl⟩
theorem dX0_markDark_67 : decode cX0_markDark 67 = .ok (.bastore, 1) := by decide +kernel
theorem eX0_markDark_67 : dec cX0_markDark 67 .bastore 1 68 := ⟨dX0_markDark_67, rfl⟩
theorem dX0_markDark_68 : decode cX0_markDark 68 = .ok (.iinc 3 1, 3) := by decide +kernel
theorem eX0_markDark_68 : dec cX0_markDark 68 (.iinc 3 1) 3 71 := ⟨dX0_markDark_68, rfl⟩
theorem dX0_markDark_71 : decode cX0_markDark 71 = .ok (.goto (-50), 3) := by decide +kernel
theorem eX0_markDark_71 : dec cX0_markDark 71 (.goto (-50)) 3 74 := ⟨dX0_markDark_71, rfl⟩
theorem dX0_markDark_74 : decode cX0_markDark 74 = .ok (.return_, 1) := by decide +kernel
theorem eX0_markDark_74 : dec cX0_markDark 74 .return_ 1 75 := ⟨dX0_markDark_74, rfl⟩
set_option maxRecDepth 20000 in
theorem ggX0_reachPart_X0_reach : GoodIn wsX0_reachPart wsX0_reach := goodIn_r _ [8, 9, 1, 2, 22, 23, 24, 25, 26, 27, 28, 29, 30, 31, 32, 33, 34, 35, 36, 37] (by decide +kernel) (by decide +kernel)
set_option maxRecDepth 20000 in
theorem gX0_reachPart_X0_reach : GoodIn wsX0_reachPart (wsV RX0 148 RX0 yX0_reach wsX0_reach) := goodIn_app (goodIn_of _ (by decide +kernel)) ggX0_reachPart_X0_reach
set_option maxRecDepth 20000 in
theorem ggX0_reachPart_X0_reachAround : GoodIn wsX0_reachPart wsX0_reachAround := goodIn_r _ [13, 14, 15, 16, 17, 18, 19, 20, 21, 3, 4, 5, 6, 7, 8, 9, 1, 2, 22, 23, 24, 25, 26, 27, 28, 29, 30, 31, 32, 33, 34, 35, 36, 37] (by decide +kernel) (by decide +kernel)
set_option maxRecDepth 20000 in
theorem gX0_reachPart_X0_reachAround : GoodIn wsX0_reachPart (wsV RX0 151 RX0 yX0_reachAround wsX0_reachAround) := goodIn_app (goodIn_of _ (by decide +kernel)) ggX0_reachPart_X0_reachAround
theorem dX0_reachPart_0 : decode cX0_reachPart 0 = .ok (.aload_n 0, 1) := by decide +kernel
theorem eX0_reachPart_0 : dec cX0_reachPart 0 (.aload_n 0) 1 1 := ⟨dX0_reachPart_0, rfl⟩
theorem dX0_reachPart_1 : decode cX0_reachPart 1 = .ok (.iconst 0, 1) := by decide +kernel
theorem eX0_reachPart_1 : dec cX0_reachPart 1 (.iconst 0) 1 2 := ⟨dX0_reachPart_1, rfl⟩
theorem dX0_reachPart_2 : decode cX0_reachPart 2 = .ok (.putfield 92, 3) := by decide +kernel
theorem eX0_reachPart_2 : dec cX0_reachPart 2 (.putfield 92) 3 5 := ⟨dX0_reachPart_2, rfl⟩
theorem dX0_reachPart_5 : decode cX0_reachPart 5 = .ok (.aload_n 0, 1) := by decide +kernel
theorem eX0_reachPart_5 : dec cX0_reachPart 5 (.aload_n 0) 1 6 := ⟨dX0_reachPart_5, rfl⟩
theorem dX0_reachPart_6 : decode cX0_reachPart 6 = .ok (.iload_n 1, 1) := by decide +kernel
theorem eX0_reachPart_6 : dec cX0_reachPart 6 (.iload_n 1) 1 7 := ⟨dX0_reachPart_6, rfl⟩
theorem dX0_reachPart_7 : decode cX0_reachPart 7 = .ok (.invokevirtual 148, 3) := by decide +kernel
theorem eX0_reachPart_7 : dec cX0_reachPart 7 (.invokevirtual 148) 3 10 := ⟨dX0_reachPart_7, rfl⟩
theorem dX0_reachPart_10 : decode cX0_reachPart 10 = .ok (.iconst 0, 1) := by decide +kernel
theorem eX0_reachPart_10 : dec cX0_reachPart 10 (.iconst 0) 1 11 := ⟨dX0_reachPart_10, rfl⟩
theorem dX0_reachPart_11 : decode cX0_reachPart 11 = .ok (.istore_n 2, 1) := by decide +kernel
theorem eX0_reachPart_11 : dec cX0_reachPart 11 (.istore_n 2) 1 12 := ⟨dX0_reachPart_11, rfl⟩
theorem dX0_reachPart_12 : decode cX0_reachPart 12 = .ok (.iload_n 2, 1) := by decide +kernel
theorem eX0_reachPart_12 : dec cX0_reachPart 12 (.iload_n 2) 1 13 := ⟨dX0_reachPart_12, rfl⟩
theorem dX0_reachPart_13 : decode cX0_reachPart 13 = .ok (.aload_n 0, 1) := by decide +kernel
theorem eX0_reachPart_13 : dec cX0_reachPart 13 (.aload_n 0) 1 14 := ⟨dX0_reachPart_13, rfl⟩
theorem dX0_reachPart_14 : decode cX0_reachPart 14 = .ok (.getfield 92, 3) := by decide +kernel
theorem eX0_reachPart_14 : dec cX0_reachPart 14 (.getfield 92) 3 17 := ⟨dX0_reachPart_14, rfl⟩
theorem dX0_reachPart_17 : decode cX0_reachPart 17 = .ok (.if_icmp .ge 44, 3) := by decide +kernel
theorem eX0_reachPart_17 : dec cX0_reachPart 17 (.if_icmp .ge 44) 3 20 := ⟨dX0_reachPart_17, rfl⟩
theorem dX0_reachPart_20 : decode cX0_reachPart 20 = .ok (.iload_n 2, 1) := by decide +kernel
theorem eX0_reachPart_20 : dec cX0_reachPart 20 (.iload_n 2) 1 21 := ⟨dX0_reachPart_20, rfl⟩
theorem dX0_reachPart_21 : decode cX0_reachPart 21 = .ok (.aload_n 0, 1) := by decide +kernel
theorem eX0_reachPart_21 : dec cX0_reachPart 21 (.aload_n 0) 1 22 := ⟨dX0_reachPart_21, rfl⟩
theorem dX0_reachPart_22 : decode cX0_reachPart 22 = .ok (.getfield 46, 3) := by decide +kernel
theorem eX0_reachPart_22 : dec cX0_reachPart 22 (.getfield 46) 3 25 := ⟨dX0_reachPart_22, rfl⟩
theorem dX0_reachPart_25 : decode cX0_reachPart 25 = .ok (.arraylength, 1) := by decide +kernel
theorem eX0_reachPart_25 : dec cX0_reachPart 25 .arraylength 1 26 := ⟨dX0_reachPart_25, rfl⟩
theorem dX0_reachPart_26 : decode cX0_reachPart 26 = .ok (.if_icmp .ge 35, 3) := by decide +kernel
theorem eX0_reachPart_26 : dec cX0_reachPart 26 (.if_icmp .ge 35) 3 29 := ⟨dX0_reachPart_26, rfl⟩
theorem dX0_reachPart_29 : decode cX0_reachPart 29 = .ok (.aload_n 0, 1) := by decide +kernel
theorem eX0_reachPart_29 : dec cX0_reachPart 29 (.aload_n 0) 1 30 := ⟨dX0_reachPart_29, rfl⟩
theorem dX0_reachPart_30 : decode cX0_reachPart 30 = .ok (.aload_n 0, 1) := by decide +kernel
theorem eX0_reachPart_30 : dec cX0_reachPart 30 (.aload_n 0) 1 31 := ⟨dX0_reachPart_30, rfl⟩
theorem dX0_reachPart_31 : decode cX0_reachPart 31 = .ok (.getfield 46, 3) := by decide +kernel
theorem eX0_reachPart_31 : dec cX0_reachPart 31 (.getfield 46) 3 34 := ⟨dX0_reachPart_31, rfl⟩
theorem dX0_reachPart_34 : decode cX0_reachPart 34 = .ok (.iload_n 2, 1) := by decide +kernel
theorem eX0_reachPart_34 : dec cX0_reachPart 34 (.iload_n 2) 1 35 := ⟨dX0_reachPart_34, rfl⟩
theorem dX0_reachPart_35 : decode cX0_reachPart 35 = .ok (.iaload, 1) := by decide +kernel
theorem eX0_reachPart_35 : dec cX0_reachPart 35 .iaload 1 36 := ⟨dX0_reachPart_35, rfl⟩
theorem dX0_reachPart_36 : decode cX0_reachPart 36 = .ok (.aload_n 0, 1) := by decide +kernel
theorem eX0_reachPart_36 : dec cX0_reachPart 36 (.aload_n 0) 1 37 := ⟨dX0_reachPart_36, rfl⟩
theorem dX0_reachPart_37 : decode cX0_reachPart 37 = .ok (.getfield 18, 3) := by decide +kernel
theorem eX0_reachPart_37 : dec cX0_reachPart 37 (.getfield 18) 3 40 := ⟨dX0_reachPart_37, rfl⟩
theorem dX0_reachPart_40 : decode cX0_reachPart 40 = .ok (.irem, 1) := by decide +kernel
theorem eX0_reachPart_40 : dec cX0_reachPart 40 .irem 1 41 := ⟨dX0_reachPart_40, rfl⟩
theorem dX0_reachPart_41 : decode cX0_reachPart 41 = .ok (.aload_n 0, 1) := by decide +kernel
theorem eX0_reachPart_41 : dec cX0_reachPart 41 (.aload_n 0) 1 42 := ⟨dX0_reachPart_41, rfl⟩
theorem dX0_reachPart_42 : decode cX0_reachPart 42 = .ok (.getfield 46, 3) := by decide +kernel
theorem eX0_reachPart_42 : dec cX0_reachPart 42 (.getfield 46) 3 45 := ⟨dX0_reachPart_42, rfl⟩
theorem dX0_reachPart_45 : decode cX0_reachPart 45 = .ok (.iload_n 2, 1) := by decide +kernel
theorem eX0_reachPart_45 : dec cX0_reachPart 45 (.iload_n 2) 1 46 := ⟨dX0_reachPart_45, rfl⟩
theorem dX0_reachPart_46 : decode cX0_reachPart 46 = .ok (.iaload, 1) := by decide +kernel
theorem eX0_reachPart_46 : dec cX0_reachPart 46 .iaload 1 47 := ⟨dX0_reachPart_46, rfl⟩
theorem dX0_reachPart_47 : decode cX0_reachPart 47 = .ok (.aload_n 0, 1) := by decide +kernel
theorem eX0_reachPart_47 : dec cX0_reachPart 47 (.aload_n 0) 1 48 := ⟨dX0_reachPart_47, rfl⟩
theorem dX0_reachPart_48 : decode cX0_reachPart 48 = .ok (.getfield 18, 3) := by decide +kernel
theorem eX0_reachPart_48 : dec cX0_reachPart 48 (.getfield 18) 3 51 := ⟨dX0_reachPart_48, rfl⟩
theorem dX0_reachPart_51 : decode cX0_reachPart 51 = .ok (.idiv, 1) := by decide +kernel
theorem eX0_reachPart_51 : dec cX0_reachPart 51 .idiv 1 52 := ⟨dX0_reachPart_51, rfl⟩
theorem dX0_reachPart_52 : decode cX0_reachPart 52 = .ok (.invokevirtual 151, 3) := by decide +kernel
theorem eX0_reachPart_52 : dec cX0_reachPart 52 (.invokevirtual 151) 3 55 := ⟨dX0_reachPart_52, rfl⟩
theorem dX0_reachPart_55 : decode cX0_reachPart 55 = .ok (.iinc 2 1, 3) := by decide +kernel
theorem eX0_reachPart_55 : dec cX0_reachPart 55 (.iinc 2 1) 3 58 := ⟨dX0_reachPart_55, rfl⟩
theorem dX0_reachPart_58 : decode cX0_reachPart 58 = .ok (.goto (-46), 3) := by decide +kernel
theorem eX0_reachPart_58 : dec cX0_reachPart 58 (.goto (-46)) 3 61 := ⟨dX0_reachPart_58, rfl⟩
theorem dX0_reachPart_61 : decode cX0_reachPart 61 = .ok (.return_, 1) := by decide +kernel
theorem eX0_reachPart_61 : dec cX0_reachPart 61 .return_ 1 62 := ⟨dX0_reachPart_61, rfl⟩
set_option maxRecDepth 20000 in
theorem ggX0_reachAround_X0_reach : GoodIn wsX0_reachAround wsX0_reach := goodIn_r _ [14, 15, 16, 17, 18, 19, 20, 21, 22, 23, 24, 25, 26, 27, 28, 29, 30, 31, 32, 33] (by decide +kernel) (by decide +kernel)
set_option maxRecDepth 20000 in
theorem gX0_reachAround_X0_reach : GoodIn wsX0_reachAround (wsV RX0 148 RX0 yX0_reach wsX0_reach) := goodIn_app (goodIn_of _ (by decide +kernel)) ggX0_reachAround_X0_reach
theorem dX0_reachAround_0 : decode cX0_reachAround 0 = .ok (.iconst 0, 1) := by decide +kernel
theorem eX0_reachAround_0 : dec cX0_reachAround 0 (.iconst 0) 1 1 := ⟨dX0_reachAround_0, rfl⟩
theorem dX0_reachAround_1 : decode cX0_reachAround 1 = .ok (.iload_n 2, 1) := by decide +kernel
theorem eX0_reachAround_1 : dec cX0_reachAround 1 (.iload_n 2) 1 2 := ⟨dX0_reachAround_1, rfl⟩
theorem dX0_reachAround_2 : decode cX0_reachAround 2 = .ok (.iconst 1, 1) := by decide +kernel
theorem eX0_reachAround_2 : dec cX0_reachAround 2 (.iconst 1) 1 3 := ⟨dX0_reachAround_2, rfl⟩
theorem dX0_reachAround_3 : decode cX0_reachAround 3 = .ok (.isub, 1) := by decide +kernel
theorem eX0_reachAround_3 : dec cX0_reachAround 3 .isub 1 4 := ⟨dX0_reachAround_3, rfl⟩
theorem dX0_reachAround_4 : decode cX0_reachAround 4 = .ok (.invokestatic 15, 3) := by decide +kernel
theorem eX0_reachAround_4 : dec cX0_reachAround 4 (.invokestatic 15) 3 7 := ⟨dX0_reachAround_4, rfl⟩
theorem dX0_reachAround_7 : decode cX0_reachAround 7 = .ok (.istore_n 3, 1) := by decide +kernel
theorem eX0_reachAround_7 : dec cX0_reachAround 7 (.istore_n 3) 1 8 := ⟨dX0_reachAround_7, rfl⟩
theorem dX0_reachAround_8 : decode cX0_reachAround 8 = .ok (.iload_n 3, 1) := by decide +kernel
theorem eX0_reachAround_8 : dec cX0_reachAround 8 (.iload_n 3) 1 9 := ⟨dX0_reachAround_8, rfl⟩
theorem dX0_reachAround_9 : decode cX0_reachAround 9 = .ok (.aload_n 0, 1) := by decide +kernel
theorem eX0_reachAround_9 : dec cX0_reachAround 9 (.aload_n 0) 1 10 := ⟨dX0_reachAround_9, rfl⟩
theorem dX0_reachAround_10 : decode cX0_reachAround 10 = .ok (.getfield 22, 3) := by decide +kernel
theorem eX0_reachAround_10 : dec cX0_reachAround 10 (.getfield 22) 3 13 := ⟨dX0_reachAround_10, rfl⟩
theorem dX0_reachAround_13 : decode cX0_reachAround 13 = .ok (.iconst 1, 1) := by decide +kernel
theorem eX0_reachAround_13 : dec cX0_reachAround 13 (.iconst 1) 1 14 := ⟨dX0_reachAround_13, rfl⟩
theorem dX0_reachAround_14 : decode cX0_reachAround 14 = .ok (.isub, 1) := by decide +kernel
theorem eX0_reachAround_14 : dec cX0_reachAround 14 .isub 1 15 := ⟨dX0_reachAround_14, rfl⟩
theorem dX0_reachAround_15 : decode cX0_reachAround 15 = .ok (.iload_n 2, 1) := by decide +kernel
theorem eX0_reachAround_15 : dec cX0_reachAround 15 (.iload_n 2) 1 16 := ⟨dX0_reachAround_15, rfl⟩
theorem dX0_reachAround_16 : decode cX0_reachAround 16 = .ok (.iconst 1, 1) := by decide +kernel
theorem eX0_reachAround_16 : dec cX0_reachAround 16 (.iconst 1) 1 17 := ⟨dX0_reachAround_16, rfl⟩
theorem dX0_reachAround_17 : decode cX0_reachAround 17 = .ok (.iadd, 1) := by decide +kernel
theorem eX0_reachAround_17 : dec cX0_reachAround 17 .iadd 1 18 := ⟨dX0_reachAround_17, rfl⟩
theorem dX0_reachAround_18 : decode cX0_reachAround 18 = .ok (.invokestatic 9, 3) := by decide +kernel
theorem eX0_reachAround_18 : dec cX0_reachAround 18 (.invokestatic 9) 3 21 := ⟨dX0_reachAround_18, rfl⟩
theorem dX0_reachAround_21 : decode cX0_reachAround 21 = .ok (.if_icmp .gt 54, 3) := by decide +kernel
theorem eX0_reachAround_21 : dec cX0_reachAround 21 (.if_icmp .gt 54) 3 24 := ⟨dX0_reachAround_21, rfl⟩
theorem dX0_reachAround_24 : decode cX0_reachAround 24 = .ok (.iconst 0, 1) := by decide +kernel
theorem eX0_reachAround_24 : dec cX0_reachAround 24 (.iconst 0) 1 25 := ⟨dX0_reachAround_24, rfl⟩
theorem dX0_reachAround_25 : decode cX0_reachAround 25 = .ok (.iload_n 1, 1) := by decide +kernel
theorem eX0_reachAround_25 : dec cX0_reachAround 25 (.iload_n 1) 1 26 := ⟨dX0_reachAround_25, rfl⟩
theorem dX0_reachAround_26 : decode cX0_reachAround 26 = .ok (.iconst 1, 1) := by decide +kernel
theorem eX0_reachAround_26 : dec cX0_reachAround 26 (.iconst 1) 1 27 := ⟨dX0_reachAround_26, rfl⟩
theorem dX0_reachAround_27 : decode cX0_reachAround 27 = .ok (.isub, 1) := by decide +kernel
theorem eX0_reachAround_27 : dec cX0_reachAround 27 .isub 1 28 := ⟨dX0_reachAround_27, rfl⟩
theorem dX0_reachAround_28 : decode cX0_reachAround 28 = .ok (.invokestatic 15, 3) := by decide +kernel
theorem eX0_reachAround_28 : dec cX0_reachAround 28 (.invokestatic 15) 3 31 := ⟨dX0_reachAround_28, rfl⟩
theorem dX0_reachAround_31 : decode cX0_reachAround 31 = .ok (.istore 4, 2) := by decide +kernel
theorem eX0_reachAround_31 : dec cX0_reachAround 31 (.istore 4) 2 33 := ⟨dX0_reachAround_31, rfl⟩
theorem dX0_reachAround_33 : decode cX0_reachAround 33 = .ok (.iload 4, 2) := by decide +kernel
theorem eX0_reachAround_33 : dec cX0_reachAround 33 (.iload 4) 2 35 := ⟨dX0_reachAround_33, rfl⟩
theorem dX0_reachAround_35 : decode cX0_reachAround 35 = .ok (.aload_n 0, 1) := by decide +kernel
theorem eX0_reachAround_35 : dec cX0_reachAround 35 (.aload_n 0) 1 36 := ⟨dX0_reachAround_35, rfl⟩
theorem dX0_reachAround_36 : decode cX0_reachAround 36 = .ok (.getfield 18, 3) := by decide +kernel
theorem eX0_reachAround_36 : dec cX0_reachAround 36 (.getfield 18) 3 39 := ⟨dX0_reachAround_36, rfl⟩
theorem dX0_reachAround_39 : decode cX0_reachAround 39 = .ok (.iconst 1, 1) := by decide +kernel
theorem eX0_reachAround_39 : dec cX0_reachAround 39 (.iconst 1) 1 40 := ⟨dX0_reachAround_39, rfl⟩
theorem dX0_reachAround_40 : decode cX0_reachAround 40 = .ok (.isub, 1) := by decide +kernel
theorem eX0_reachAround_40 : dec cX0_reachAround 40 .isub 1 41 := ⟨dX0_reachAround_40, rfl⟩
theorem dX0_reachAround_41 : decode cX0_reachAround 41 = .ok (.iload_n 1, 1) := by decide +kernel
theorem eX0_reachAround_41 : dec cX0_reachAround 41 (.iload_n 1) 1 42 := ⟨dX0_reachAround_41, rfl⟩
theorem dX0_reachAround_42 : decode cX0_reachAround 42 = .ok (.iconst 1, 1) := by decide +kernel
theorem eX0_reachAround_42 : dec cX0_reachAround 42 (.iconst 1) 1 43 := ⟨dX0_reachAround_42, rfl⟩
theorem dX0_reachAround_43 : decode cX0_reachAround 43 = .ok (.iadd, 1) := by decide +kernel
theorem eX0_reachAround_43 : dec cX0_reachAround 43 .iadd 1 44 := ⟨dX0_reachAround_43, rfl⟩
theorem dX0_reachAround_44 : decode cX0_reachAround 44 = .ok (.invokestatic 9, 3) := by decide +kernel
theorem eX0_reachAround_44 : dec cX0_reachAround 44 (.invokestatic 9) 3 47 := ⟨dX0_reachAround_44, rfl⟩
theorem dX0_reachAround_47 : decode cX0_reachAround 47 = .ok (.if_icmp .gt 22, 3) := by decide +kernel
theorem eX0_reachAround_47 : dec cX0_reachAround 47 (.if_icmp .gt 22) 3 50 := ⟨dX0_reachAround_47, rfl⟩
theorem dX0_reachAround_50 : decode cX0_reachAround 50 = .ok (.aload_n 0, 1) := by decide +kernel
theorem eX0_reachAround_50 : dec cX0_reachAround 50 (.aload_n 0) 1 51 := ⟨dX0_reachAround_50, rfl⟩
theorem dX0_reachAround_51 : decode cX0_reachAround 51 = .ok (.iload_n 3, 1) := by decide +kernel
theorem eX0_reachAround_51 : dec cX0_reachAround 51 (.iload_n 3) 1 52 := ⟨dX0_reachAround_51, rfl⟩
theorem dX0_reachAround_52 : decode cX0_reachAround 52 = .ok (.aload_n 0, 1) := by decide +kernel
theorem eX0_reachAround_52 : dec cX0_reachAround 52 (.aload_n 0) 1 53 := ⟨dX0_reachAround_52, rfl⟩
theorem dX0_reachAround_53 : decode cX0_reachAround 53 = .ok (.getfield 18, 3) := by decide +kernel
theorem eX0_reachAround_53 : dec cX0_reachAround 53 (.getfield 18) 3 56 := ⟨dX0_reachAround_53, rfl⟩
theorem dX0_reachAround_56 : decode cX0_reachAround 56 = .ok (.imul, 1) := by decide +kernel
theorem eX0_reachAround_56 : dec cX0_reachAround 56 .imul 1 57 := ⟨dX0_reachAround_56, rfl⟩
theorem dX0_reachAround_57 : decode cX0_reachAround 57 = .ok (.iload 4, 2) := by decide +kernel
theorem eX0_reachAround_57 : dec cX0_reachAround 57 (.iload 4) 2 59 := ⟨dX0_reachAround_57, rfl⟩
theorem dX0_reachAround_59 : decode cX0_reachAround 59 = .ok (.iadd, 1) := by decide +kernel
theorem eX0_reachAround_59 : dec cX0_reachAround 59 .iadd 1 60 := ⟨dX0_reachAround_59, rfl⟩
theorem dX0_reachAround_60 : decode cX0_reachAround 60 = .ok (.invokevirtual 148, 3) := by decide +kernel
theorem eX0_reachAround_60 : dec cX0_reachAround 60 (.invokevirtual 148) 3 63 := ⟨dX0_reachAround_60, rfl⟩
theorem dX0_reachAround_63 : decode cX0_reachAround 63 = .ok (.iinc 4 1, 3) := by decide +kernel
theorem eX0_reachAround_63 : dec cX0_reachAround 63 (.iinc 4 1) 3 66 := ⟨dX0_reachAround_63, rfl⟩
theorem dX0_reachAround_66 : decode cX0_reachAround 66 = .ok (.goto (-33), 3) := by decide +kernel
theorem eX0_reachAround_66 : dec cX0_reachAround 66 (.goto (-33)) 3 69 := ⟨dX0_reachAround_66, rfl⟩
theorem dX0_reachAround_69 : decode cX0_reachAround 69 = .ok (.iinc 3 1, 3) := by decide +kernel
theorem eX0_reachAround_69 : dec cX0_reachAround 69 (.iinc 3 1) 3 72 := ⟨dX0_reachAround_69, rfl⟩
theorem dX0_reachAround_72 : decode cX0_reachAround 72 = .ok (.goto (-64), 3) := by decide +kernel
theorem eX0_reachAround_72 : dec cX0_reachAround 72 (.goto (-64)) 3 75 := ⟨dX0_reachAround_72, rfl⟩
theorem dX0_reachAround_75 : decode cX0_reachAround 75 = .ok (.return_, 1) := by decide +kernel
theorem eX0_reachAround_75 : dec cX0_reachAround 75 .return_ 1 76 := ⟨dX0_reachAround_75, rfl⟩
theorem dX0_reach_0 : decode cX0_reach 0 = .ok (.aload_n 0, 1) := by decide +kernel
theorem eX0_reach_0 : dec cX0_reach 0 (.aload_n 0) 1 1 := ⟨dX0_reach_0, rfl⟩
theorem dX0_reach_1 : decode cX0_reach 1 = .ok (.getfield 39, 3) := by decide +kernel
theorem eX0_reach_1 : dec cX0_reach 1 (.getfield 39) 3 4 := ⟨dX0_reach_1, rfl⟩
theorem dX0_reach_4 : decode cX0_reach 4 = .ok (.iload_n 1, 1) := by decide +kernel
theorem eX0_reach_4 : dec cX0_reach 4 (.iload_n 1) 1 5 := ⟨dX0_reach_4, rfl⟩
theorem dX0_reach_5 : decode cX0_reach 5 = .ok (.baload, 1) := by decide +kernel
theorem eX0_reach_5 : dec cX0_reach 5 .baload 1 6 := ⟨dX0_reach_5, rfl⟩
theorem dX0_reach_6 : decode cX0_reach 6 = .ok (.ifCond .eq 42, 3) := by decide +kernel
theorem eX0_reach_6 : dec cX0_reach 6 (.ifCond .eq 42) 3 9 := ⟨dX0_reach_6, rfl⟩
theorem dX0_reach_9 : decode cX0_reach 9 = .ok (.aload_n 0, 1) := by decide +kernel
theorem eX0_reach_9 : dec cX0_reach 9 (.aload_n 0) 1 10 := ⟨dX0_reach_9, rfl⟩
theorem dX0_reach_10 : decode cX0_reach 10 = .ok (.getfield 92, 3) := by decide +kernel
theorem eX0_reach_10 : dec cX0_reach 10 (.getfield 92) 3 13 := ⟨dX0_reach_10, rfl⟩
theorem dX0_reach_13 : decode cX0_reach 13 = .ok (.aload_n 0, 1) := by decide +kernel
theorem eX0_reach_13 : dec cX0_reach 13 (.aload_n 0) 1 14 := ⟨dX0_reach_13, rfl⟩
theorem dX0_reach_14 : decode cX0_reach 14 = .ok (.getfield 46, 3) := by decide +kernel
theorem eX0_reach_14 : dec cX0_reach 14 (.getfield 46) 3 17 := ⟨dX0_reach_14, rfl⟩
theorem dX0_reach_17 : decode cX0_reach 17 = .ok (.arraylength, 1) := by decide +kernel
theorem eX0_reach_17 : dec cX0_reach 17 .arraylength 1 18 := ⟨dX0_reach_17, rfl⟩
theorem dX0_reach_18 : decode cX0_reach 18 = .ok (.if_icmp .ge 30, 3) := by decide +kernel
theorem eX0_reach_18 : dec cX0_reach 18 (.if_icmp .ge 30) 3 21 := ⟨dX0_reach_18, rfl⟩
theorem dX0_reach_21 : decode cX0_reach 21 = .ok (.aload_n 0, 1) := by decide +kernel
theorem eX0_reach_21 : dec cX0_reach 21 (.aload_n 0) 1 22 := ⟨dX0_reach_21, rfl⟩
theorem dX0_reach_22 : decode cX0_reach 22 = .ok (.getfield 39, 3) := by decide +kernel
theorem eX0_reach_22 : dec cX0_reach 22 (.getfield 39) 3 25 := ⟨dX0_reach_22, rfl⟩
theorem dX0_reach_25 : decode cX0_reach 25 = .ok (.iload_n 1, 1) := by decide +kernel
theorem eX0_reach_25 : dec cX0_reach 25 (.iload_n 1) 1 26 := ⟨dX0_reach_25, rfl⟩
theorem dX0_reach_26 : decode cX0_reach 26 = .ok (.iconst 0, 1) := by decide +kernel
theorem eX0_reach_26 : dec cX0_reach 26 (.iconst 0) 1 27 := ⟨dX0_reach_26, rfl⟩
theorem dX0_reach_27 : decode cX0_reach 27 = .ok (.bastore, 1) := by decide +kernel
theorem eX0_reach_27 : dec cX0_reach 27 .bastore 1 28 := ⟨dX0_reach_27, rfl⟩
theorem dX0_reach_28 : decode cX0_reach 28 = .ok (.aload_n 0, 1) := by decide +kernel
theorem eX0_reach_28 : dec cX0_reach 28 (.aload_n 0) 1 29 := ⟨dX0_reach_28, rfl⟩
theorem dX0_reach_29 : decode cX0_reach 29 = .ok (.getfield 46, 3) := by decide +kernel
theorem eX0_reach_29 : dec cX0_reach 29 (.getfield 46) 3 32 := ⟨dX0_reach_29, rfl⟩
theorem dX0_reach_32 : decode cX0_reach 32 = .ok (.aload_n 0, 1) := by decide +kernel
theorem eX0_reach_32 : dec cX0_reach 32 (.aload_n 0) 1 33 := ⟨dX0_reach_32, rfl⟩
theorem dX0_reach_33 : decode cX0_reach 33 = .ok (.getfield 92, 3) := by decide +kernel
theorem eX0_reach_33 : dec cX0_reach 33 (.getfield 92) 3 36 := ⟨dX0_reach_33, rfl⟩
theorem dX0_reach_36 : decode cX0_reach 36 = .ok (.iload_n 1, 1) := by decide +kernel
theorem eX0_reach_36 : dec cX0_reach 36 (.iload_n 1) 1 37 := ⟨dX0_reach_36, rfl⟩
theorem dX0_reach_37 : decode cX0_reach 37 = .ok (.iastore, 1) := by decide +kernel
theorem eX0_reach_37 : dec cX0_reach 37 .iastore 1 38 := ⟨dX0_reach_37, rfl⟩
theorem dX0_reach_38 : decode cX0_reach 38 = .ok (.aload_n 0, 1) := by decide +kernel
theorem eX0_reach_38 : dec cX0_reach 38 (.aload_n 0) 1 39 := ⟨dX0_reach_38, rfl⟩
theorem dX0_reach_39 : decode cX0_reach 39 = .ok (.dup, 1) := by decide +kernel
theorem eX0_reach_39 : dec cX0_reach 39 .dup 1 40 := ⟨dX0_reach_39, rfl⟩
theorem dX0_reach_40 : decode cX0_reach 40 = .ok (.getfield 92, 3) := by decide +kernel
theorem eX0_reach_40 : dec cX0_reach 40 (.getfield 92) 3 43 := ⟨dX0_reach_40, rfl⟩
theorem dX0_reach_43 : decode cX0_reach 43 = .ok (.iconst 1, 1) := by decide +kernel
theorem eX0_reach_43 : dec cX0_reach 43 (.iconst 1) 1 44 := ⟨dX0_reach_43, rfl⟩
theorem dX0_reach_44 : decode cX0_reach 44 = .ok (.iadd, 1) := by decide +kernel
theorem eX0_reach_44 : dec cX0_reach 44 .iadd 1 45 := ⟨dX0_reach_44, rfl⟩
theorem dX0_reach_45 : decode cX0_reach 45 = .ok (.putfield 92, 3) := by decide +kernel
theorem eX0_reach_45 : dec cX0_reach 45 (.putfield 92) 3 48 := ⟨dX0_reach_45, rfl⟩
theorem dX0_reach_48 : decode cX0_reach 48 = .ok (.return_, 1) := by decide +kernel
theorem eX0_reach_48 : dec cX0_reach 48 .return_ 1 49 := ⟨dX0_reach_48, rfl⟩
theorem dX0_keepPart_0 : decode cX0_keepPart 0 = .ok (.aload_n 0, 1) := by decide +kernel
theorem eX0_keepPart_0 : dec cX0_keepPart 0 (.aload_n 0) 1 1 := ⟨dX0_keepPart_0, rfl⟩
theorem dX0_keepPart_1 : decode cX0_keepPart 1 = .ok (.getfield 85, 3) := by decide +kernel
theorem eX0_keepPart_1 : dec cX0_keepPart 1 (.getfield 85) 3 4 := ⟨dX0_keepPart_1, rfl⟩
theorem dX0_keepPart_4 : decode cX0_keepPart 4 = .ok (.bipush 7, 2) := by decide +kernel
theorem eX0_keepPart_4 : dec cX0_keepPart 4 (.bipush 7) 2 6 := ⟨dX0_keepPart_4, rfl⟩
theorem dX0_keepPart_6 : decode cX0_keepPart 6 = .ok (.imul, 1) := by decide +kernel
theorem eX0_keepPart_6 : dec cX0_keepPart 6 .imul 1 7 := ⟨dX0_keepPart_6, rfl⟩
theorem dX0_keepPart_7 : decode cX0_keepPart 7 = .ok (.istore_n 1, 1) := by decide +kernel
theorem eX0_keepPart_7 : dec cX0_keepPart 7 (.istore_n 1) 1 8 := ⟨dX0_keepPart_7, rfl⟩
theorem dX0_keepPart_8 : decode cX0_keepPart 8 = .ok (.iload_n 1, 1) := by decide +kernel
theorem eX0_keepPart_8 : dec cX0_keepPart 8 (.iload_n 1) 1 9 := ⟨dX0_keepPart_8, rfl⟩
theorem dX0_keepPart_9 : decode cX0_keepPart 9 = .ok (.bipush 7, 2) := by decide +kernel
theorem eX0_keepPart_9 : dec cX0_keepPart 9 (.bipush 7) 2 11 := ⟨dX0_keepPart_9, rfl⟩
theorem dX0_keepPart_11 : decode cX0_keepPart 11 = .ok (.iadd, 1) := by decide +kernel
theorem eX0_keepPart_11 : dec cX0_keepPart 11 .iadd 1 12 := ⟨dX0_keepPart_11, rfl⟩
theorem dX0_keepPart_12 : decode cX0_keepPart 12 = .ok (.aload_n 0, 1) := by decide +kernel
theorem eX0_keepPart_12 : dec cX0_keepPart 12 (.aload_n 0) 1 13 := ⟨dX0_keepPart_12, rfl⟩
theorem dX0_keepPart_13 : decode cX0_keepPart 13 = .ok (.getfield 49, 3) := by decide +kernel
theorem eX0_keepPart_13 : dec cX0_keepPart 13 (.getfield 49) 3 16 := ⟨dX0_keepPart_13, rfl⟩
theorem dX0_keepPart_16 : decode cX0_keepPart 16 = .ok (.arraylength, 1) := by decide +kernel
theorem eX0_keepPart_16 : dec cX0_keepPart 16 .arraylength 1 17 := ⟨dX0_keepPart_16, rfl⟩
theorem dX0_keepPart_17 : decode cX0_keepPart 17 = .ok (.if_icmp .le 4, 3) := by decide +kernel
theorem eX0_keepPart_17 : dec cX0_keepPart 17 (.if_icmp .le 4) 3 20 := ⟨dX0_keepPart_17, rfl⟩
theorem dX0_keepPart_20 : decode cX0_keepPart 20 = .ok (.return_, 1) := by decide +kernel
theorem eX0_keepPart_20 : dec cX0_keepPart 20 .return_ 1 21 := ⟨dX0_keepPart_20, rfl⟩
theorem dX0_keepPart_21 : decode cX0_keepPart 21 = .ok (.aload_n 0, 1) := by decide +kernel
theorem eX0_keepPart_21 : dec cX0_keepPart 21 (.aload_n 0) 1 22 := ⟨dX0_keepPart_21, rfl⟩
theorem dX0_keepPart_22 : decode cX0_keepPart 22 = .ok (.getfield 18, 3) := by decide +kernel
theorem eX0_keepPart_22 : dec cX0_keepPart 22 (.getfield 18) 3 25 := ⟨dX0_keepPart_22, rfl⟩
theorem dX0_keepPart_25 : decode cX0_keepPart 25 = .ok (.istore_n 2, 1) := by decide +kernel
theorem eX0_keepPart_25 : dec cX0_keepPart 25 (.istore_n 2) 1 26 := ⟨dX0_keepPart_25, rfl⟩
theorem dX0_keepPart_26 : decode cX0_keepPart 26 = .ok (.aload_n 0, 1) := by decide +kernel
theorem eX0_keepPart_26 : dec cX0_keepPart 26 (.aload_n 0) 1 27 := ⟨dX0_keepPart_26, rfl⟩
theorem dX0_keepPart_27 : decode cX0_keepPart 27 = .ok (.getfield 22, 3) := by decide +kernel
theorem eX0_keepPart_27 : dec cX0_keepPart 27 (.getfield 22) 3 30 := ⟨dX0_keepPart_27, rfl⟩
theorem dX0_keepPart_30 : decode cX0_keepPart 30 = .ok (.istore_n 3, 1) := by decide +kernel
theorem eX0_keepPart_30 : dec cX0_keepPart 30 (.istore_n 3) 1 31 := ⟨dX0_keepPart_30, rfl⟩
theorem dX0_keepPart_31 : decode cX0_keepPart 31 = .ok (.iconst 0, 1) := by decide +kernel
theorem eX0_keepPart_31 : dec cX0_keepPart 31 (.iconst 0) 1 32 := ⟨dX0_keepPart_31, rfl⟩
theorem dX0_keepPart_32 : decode cX0_keepPart 32 = .ok (.istore 4, 2) := by decide +kernel
theorem eX0_keepPart_32 : dec cX0_keepPart 32 (.istore 4) 2 34 := ⟨dX0_keepPart_32, rfl⟩
theorem dX0_keepPart_34 : decode cX0_keepPart 34 = .ok (.iconst 0, 1) := by decide +kernel
theorem eX0_keepPart_34 : dec cX0_keepPart 34 (.iconst 0) 1 35 := ⟨dX0_keepPart_34, rfl⟩
theorem dX0_keepPart_35 : decode cX0_keepPart 35 = .ok (.istore 5, 2) := by decide +kernel
theorem eX0_keepPart_35 : dec cX0_keepPart 35 (.istore 5) 2 37 := ⟨dX0_keepPart_35, rfl⟩
theorem dX0_keepPart_37 : decode cX0_keepPart 37 = .ok (.iconst 0, 1) := by decide +kernel
theorem eX0_keepPart_37 : dec cX0_keepPart 37 (.iconst 0) 1 38 := ⟨dX0_keepPart_37, rfl⟩
theorem dX0_keepPart_38 : decode cX0_keepPart 38 = .ok (.istore 6, 2) := by decide +kernel
theorem eX0_keepPart_38 : dec cX0_keepPart 38 (.istore 6) 2 40 := ⟨dX0_keepPart_38, rfl⟩
theorem dX0_keepPart_40 : decode cX0_keepPart 40 = .ok (.iconst 0, 1) := by decide +kernel
theorem eX0_keepPart_40 : dec cX0_keepPart 40 (.iconst 0) 1 41 := ⟨dX0_keepPart_40, rfl⟩
theorem dX0_keepPart_41 : decode cX0_keepPart 41 = .ok (.istore 7, 2) := by decide +kernel
theorem eX0_keepPart_41 : dec cX0_keepPart 41 (.istore 7) 2 43 := ⟨dX0_keepPart_41, rfl⟩
theorem dX0_keepPart_43 : decode cX0_keepPart 43 = .ok (.iconst 0, 1) := by decide +kernel
theorem eX0_keepPart_43 : dec cX0_keepPart 43 (.iconst 0) 1 44 := ⟨dX0_keepPart_43, rfl⟩
theorem dX0_keepPart_44 : decode cX0_keepPart 44 = .ok (.istore 8, 2) := by decide +kernel
theorem eX0_keepPart_44 : dec cX0_keepPart 44 (.istore 8) 2 46 := ⟨dX0_keepPart_44, rfl⟩
theorem dX0_keepPart_46 : decode cX0_keepPart 46 = .ok (.iload 8, 2) := by decide +kernel
theorem eX0_keepPart_46 : dec cX0_keepPart 46 (.iload 8) 2 48 := ⟨dX0_keepPart_46, rfl⟩
theorem dX0_keepPart_48 : decode cX0_keepPart 48 = .ok (.aload_n 0, 1) := by decide +kernel
theorem eX0_keepPart_48 : dec cX0_keepPart 48 (.aload_n 0) 1 49 := ⟨dX0_keepPart_48, rfl⟩
theorem dX0_keepPart_49 : decode cX0_keepPart 49 = .ok (.getfield 92, 3) := by decide +kernel
theorem eX0_keepPart_49 : dec cX0_keepPart 49 (.getfield 92) 3 52 := ⟨dX0_keepPart_49, rfl⟩
theorem dX0_keepPart_52 : decode cX0_keepPart 52 = .ok (.if_icmp .ge 83, 3) := by decide +kernel
theorem eX0_keepPart_52 : dec cX0_keepPart 52 (.if_icmp .ge 83) 3 55 := ⟨dX0_keepPart_52, rfl⟩
theorem dX0_keepPart_55 : decode cX0_keepPart 55 = .ok (.aload_n 0, 1) := by decide +kernel
theorem eX0_keepPart_55 : dec cX0_keepPart 55 (.aload_n 0) 1 56 := ⟨dX0_keepPart_55, rfl⟩
theorem dX0_keepPart_56 : decode cX0_keepPart 56 = .ok (.getfield 46, 3) := by decide +kernel
theorem eX0_keepPart_56 : dec cX0_keepPart 56 (.getfield 46) 3 59 := ⟨dX0_keepPart_56, rfl⟩
theorem dX0_keepPart_59 : decode cX0_keepPart 59 = .ok (.iload 8, 2) := by decide +kernel
theorem eX0_keepPart_59 : dec cX0_keepPart 59 (.iload 8) 2 61 := ⟨dX0_keepPart_59, rfl⟩
theorem dX0_keepPart_61 : decode cX0_keepPart 61 = .ok (.iaload, 1) := by decide +kernel
theorem eX0_keepPart_61 : dec cX0_keepPart 61 .iaload 1 62 := ⟨dX0_keepPart_61, rfl⟩
theorem dX0_keepPart_62 : decode cX0_keepPart 62 = .ok (.aload_n 0, 1) := by decide +kernel
theorem eX0_keepPart_62 : dec cX0_keepPart 62 (.aload_n 0) 1 63 := ⟨dX0_keepPart_62, rfl⟩
theorem dX0_keepPart_63 : decode cX0_keepPart 63 = .ok (.getfield 18, 3) := by decide +kernel
theorem eX0_keepPart_63 : dec cX0_keepPart 63 (.getfield 18) 3 66 := ⟨dX0_keepPart_63, rfl⟩
theorem dX0_keepPart_66 : decode cX0_keepPart 66 = .ok (.irem, 1) := by decide +kernel
theorem eX0_keepPart_66 : dec cX0_keepPart 66 .irem 1 67 := ⟨dX0_keepPart_66, rfl⟩
theorem dX0_keepPart_67 : decode cX0_keepPart 67 = .ok (.istore 9, 2) := by decide +kernel
theorem eX0_keepPart_67 : dec cX0_keepPart 67 (.istore 9) 2 69 := ⟨dX0_keepPart_67, rfl⟩
theorem dX0_keepPart_69 : decode cX0_keepPart 69 = .ok (.aload_n 0, 1) := by decide +kernel
theorem eX0_keepPart_69 : dec cX0_keepPart 69 (.aload_n 0) 1 70 := ⟨dX0_keepPart_69, rfl⟩
theorem dX0_keepPart_70 : decode cX0_keepPart 70 = .ok (.getfield 46, 3) := by decide +kernel
theorem eX0_keepPart_70 : dec cX0_keepPart 70 (.getfield 46) 3 73 := ⟨dX0_keepPart_70, rfl⟩
theorem dX0_keepPart_73 : decode cX0_keepPart 73 = .ok (.iload 8, 2) := by decide +kernel
theorem eX0_keepPart_73 : dec cX0_keepPart 73 (.iload 8) 2 75 := ⟨dX0_keepPart_73, rfl⟩
theorem dX0_keepPart_75 : decode cX0_keepPart 75 = .ok (.iaload, 1) := by decide +kernel
theorem eX0_keepPart_75 : dec cX0_keepPart 75 .iaload 1 76 := ⟨dX0_keepPart_75, rfl⟩
theorem dX0_keepPart_76 : decode cX0_keepPart 76 = .ok (.aload_n 0, 1) := by decide +kernel
theorem eX0_keepPart_76 : dec cX0_keepPart 76 (.aload_n 0) 1 77 := ⟨dX0_keepPart_76, rfl⟩
theorem dX0_keepPart_77 : decode cX0_keepPart 77 = .ok (.getfield 18, 3) := by decide +kernel
theorem eX0_keepPart_77 : dec cX0_keepPart 77 (.getfield 18) 3 80 := ⟨dX0_keepPart_77, rfl⟩
theorem dX0_keepPart_80 : decode cX0_keepPart 80 = .ok (.idiv, 1) := by decide +kernel
theorem eX0_keepPart_80 : dec cX0_keepPart 80 .idiv 1 81 := ⟨dX0_keepPart_80, rfl⟩
theorem dX0_keepPart_81 : decode cX0_keepPart 81 = .ok (.istore 10, 2) := by decide +kernel
theorem eX0_keepPart_81 : dec cX0_keepPart 81 (.istore 10) 2 83 := ⟨dX0_keepPart_81, rfl⟩
theorem dX0_keepPart_83 : decode cX0_keepPart 83 = .ok (.iload_n 2, 1) := by decide +kernel
theorem eX0_keepPart_83 : dec cX0_keepPart 83 (.iload_n 2) 1 84 := ⟨dX0_keepPart_83, rfl⟩
theorem dX0_keepPart_84 : decode cX0_keepPart 84 = .ok (.iload 9, 2) := by decide +kernel
theorem eX0_keepPart_84 : dec cX0_keepPart 84 (.iload 9) 2 86 := ⟨dX0_keepPart_84, rfl⟩
theorem dX0_keepPart_86 : decode cX0_keepPart 86 = .ok (.invokestatic 9, 3) := by decide +kernel
theorem eX0_keepPart_86 : dec cX0_keepPart 86 (.invokestatic 9) 3 89 := ⟨dX0_keepPart_86, rfl⟩
theorem dX0_keepPart_89 : decode cX0_keepPart 89 = .ok (.istore_n 2, 1) := by decide +kernel
theorem eX0_keepPart_89 : dec cX0_keepPart 89 (.istore_n 2) 1 90 := ⟨dX0_keepPart_89, rfl⟩
theorem dX0_keepPart_90 : decode cX0_keepPart 90 = .ok (.iload_n 3, 1) := by decide +kernel
theorem eX0_keepPart_90 : dec cX0_keepPart 90 (.iload_n 3) 1 91 := ⟨dX0_keepPart_90, rfl⟩
theorem dX0_keepPart_91 : decode cX0_keepPart 91 = .ok (.iload 10, 2) := by decide +kernel
theorem eX0_keepPart_91 : dec cX0_keepPart 91 (.iload 10) 2 93 := ⟨dX0_keepPart_91, rfl⟩
theorem dX0_keepPart_93 : decode cX0_keepPart 93 = .ok (.invokestatic 9, 3) := by decide +kernel
theorem eX0_keepPart_93 : dec cX0_keepPart 93 (.invokestatic 9) 3 96 := ⟨dX0_keepPart_93, rfl⟩
theorem dX0_keepPart_96 : decode cX0_keepPart 96 = .ok (.istore_n 3, 1) := by decide +kernel
theorem eX0_keepPart_96 : dec cX0_keepPart 96 (.istore_n 3) 1 97 := ⟨dX0_keepPart_96, rfl⟩
theorem dX0_keepPart_97 : decode cX0_keepPart 97 = .ok (.iload 4, 2) := by decide +kernel
theorem eX0_keepPart_97 : dec cX0_keepPart 97 (.iload 4) 2 99 := ⟨dX0_keepPart_97, rfl⟩
theorem dX0_keepPart_99 : decode cX0_keepPart 99 = .ok (.iload 9, 2) := by decide +kernel
theorem eX0_keepPart_99 : dec cX0_keepPart 99 (.iload 9) 2 101 := ⟨dX0_keepPart_99, rfl⟩
theorem dX0_keepPart_101 : decode cX0_keepPart 101 = .ok (.invokestatic 15, 3) := by decide +kernel
theorem eX0_keepPart_101 : dec cX0_keepPart 101 (.invokestatic 15) 3 104 := ⟨dX0_keepPart_101, rfl⟩
theorem dX0_keepPart_104 : decode cX0_keepPart 104 = .ok (.istore 4, 2) := by decide +kernel
theorem eX0_keepPart_104 : dec cX0_keepPart 104 (.istore 4) 2 106 := ⟨dX0_keepPart_104, rfl⟩
theorem dX0_keepPart_106 : decode cX0_keepPart 106 = .ok (.iload 5, 2) := by decide +kernel
theorem eX0_keepPart_106 : dec cX0_keepPart 106 (.iload 5) 2 108 := ⟨dX0_keepPart_106, rfl⟩
theorem dX0_keepPart_108 : decode cX0_keepPart 108 = .ok (.iload 10, 2) := by decide +kernel
theorem eX0_keepPart_108 : dec cX0_keepPart 108 (.iload 10) 2 110 := ⟨dX0_keepPart_108, rfl⟩
theorem dX0_keepPart_110 : decode cX0_keepPart 110 = .ok (.invokestatic 15, 3) := by decide +kernel
theorem eX0_keepPart_110 : dec cX0_keepPart 110 (.invokestatic 15) 3 113 := ⟨dX0_keepPart_110, rfl⟩
theorem dX0_keepPart_113 : decode cX0_keepPart 113 = .ok (.istore 5, 2) := by decide +kernel
theorem eX0_keepPart_113 : dec cX0_keepPart 113 (.istore 5) 2 115 := ⟨dX0_keepPart_113, rfl⟩
theorem dX0_keepPart_115 : decode cX0_keepPart 115 = .ok (.iload 6, 2) := by decide +kernel
theorem eX0_keepPart_115 : dec cX0_keepPart 115 (.iload 6) 2 117 := ⟨dX0_keepPart_115, rfl⟩
theorem dX0_keepPart_117 : decode cX0_keepPart 117 = .ok (.iload 9, 2) := by decide +kernel
theorem eX0_keepPart_117 : dec cX0_keepPart 117 (.iload 9) 2 119 := ⟨dX0_keepPart_117, rfl⟩
theorem dX0_keepPart_119 : decode cX0_keepPart 119 = .ok (.iadd, 1) := by decide +kernel
theorem eX0_keepPart_119 : dec cX0_keepPart 119 .iadd 1 120 := ⟨dX0_keepPart_119, rfl⟩
theorem dX0_keepPart_120 : decode cX0_keepPart 120 = .ok (.istore 6, 2) := by decide +kernel
theorem eX0_keepPart_120 : dec cX0_keepPart 120 (.istore 6) 2 122 := ⟨dX0_keepPart_120, rfl⟩
theorem dX0_keepPart_122 : decode cX0_keepPart 122 = .ok (.iload 7, 2) := by decide +kernel
theorem eX0_keepPart_122 : dec cX0_keepPart 122 (.iload 7) 2 124 := ⟨dX0_keepPart_122, rfl⟩
theorem dX0_keepPart_124 : decode cX0_keepPart 124 = .ok (.iload 10, 2) := by decide +kernel
theorem eX0_keepPart_124 : dec cX0_keepPart 124 (.iload 10) 2 126 := ⟨dX0_keepPart_124, rfl⟩
theorem dX0_keepPart_126 : decode cX0_keepPart 126 = .ok (.iadd, 1) := by decide +kernel
theorem eX0_keepPart_126 : dec cX0_keepPart 126 .iadd 1 127 := ⟨dX0_keepPart_126, rfl⟩
theorem dX0_keepPart_127 : decode cX0_keepPart 127 = .ok (.istore 7, 2) := by decide +kernel
theorem eX0_keepPart_127 : dec cX0_keepPart 127 (.istore 7) 2 129 := ⟨dX0_keepPart_127, rfl⟩
theorem dX0_keepPart_129 : decode cX0_keepPart 129 = .ok (.iinc 8 1, 3) := by decide +kernel
theorem eX0_keepPart_129 : dec cX0_keepPart 129 (.iinc 8 1) 3 132 := ⟨dX0_keepPart_129, rfl⟩
theorem dX0_keepPart_132 : decode cX0_keepPart 132 = .ok (.goto (-86), 3) := by decide +kernel
theorem eX0_keepPart_132 : dec cX0_keepPart 132 (.goto (-86)) 3 135 := ⟨dX0_keepPart_132, rfl⟩
theorem dX0_keepPart_135 : decode cX0_keepPart 135 = .ok (.aload_n 0, 1) := by decide +kernel
theorem eX0_keepPart_135 : dec cX0_keepPart 135 (.aload_n 0) 1 136 := ⟨dX0_keepPart_135, rfl⟩
theorem dX0_keepPart_136 : decode cX0_keepPart 136 = .ok (.getfield 49, 3) := by decide +kernel
theorem eX0_keepPart_136 : dec cX0_keepPart 136 (.getfield 49) 3 139 := ⟨dX0_keepPart_136, rfl⟩
theorem dX0_keepPart_139 : decode cX0_keepPart 139 = .ok (.iload_n 1, 1) := by decide +kernel
theorem eX0_keepPart_139 : dec cX0_keepPart 139 (.iload_n 1) 1 140 := ⟨dX0_keepPart_139, rfl⟩
theorem dX0_keepPart_140 : decode cX0_keepPart 140 = .ok (.iload_n 2, 1) := by decide +kernel
theorem eX0_keepPart_140 : dec cX0_keepPart 140 (.iload_n 2) 1 141 := ⟨dX0_keepPart_140, rfl⟩
theorem dX0_keepPart_141 : decode cX0_keepPart 141 = .ok (.iastore, 1) := by decide +kernel
theorem eX0_keepPart_141 : dec cX0_keepPart 141 .iastore 1 142 := ⟨dX0_keepPart_141, rfl⟩
theorem dX0_keepPart_142 : decode cX0_keepPart 142 = .ok (.aload_n 0, 1) := by decide +kernel
theorem eX0_keepPart_142 : dec cX0_keepPart 142 (.aload_n 0) 1 143 := ⟨dX0_keepPart_142, rfl⟩
theorem dX0_keepPart_143 : decode cX0_keepPart 143 = .ok (.getfield 49, 3) := by decide +kernel
theorem eX0_keepPart_143 : dec cX0_keepPart 143 (.getfield 49) 3 146 := ⟨dX0_keepPart_143, rfl⟩
theorem dX0_keepPart_146 : decode cX0_keepPart 146 = .ok (.iload_n 1, 1) := by decide +kernel
theorem eX0_keepPart_146 : dec cX0_keepPart 146 (.iload_n 1) 1 147 := ⟨dX0_keepPart_146, rfl⟩
theorem dX0_keepPart_147 : decode cX0_keepPart 147 = .ok (.iconst 1, 1) := by decide +kernel
theorem eX0_keepPart_147 : dec cX0_keepPart 147 (.iconst 1) 1 148 := ⟨dX0_keepPart_147, rfl⟩
theorem dX0_keepPart_148 : decode cX0_keepPart 148 = .ok (.iadd, 1) := by decide +kernel
theorem eX0_keepPart_148 : dec cX0_keepPart 148 .iadd 1 149 := ⟨dX0_keepPart_148, rfl⟩
theorem dX0_keepPart_149 : decode cX0_keepPart 149 = .ok (.iload_n 3, 1) := by decide +kernel
theorem eX0_keepPart_149 : dec cX0_keepPart 149 (.iload_n 3) 1 150 := ⟨dX0_keepPart_149, rfl⟩
theorem dX0_keepPart_150 : decode cX0_keepPart 150 = .ok (.iastore, 1) := by decide +kernel
theorem eX0_keepPart_150 : dec cX0_keepPart 150 .iastore 1 151 := ⟨dX0_keepPart_150, rfl⟩
theorem dX0_keepPart_151 : decode cX0_keepPart 151 = .ok (.aload_n 0, 1) := by decide +kernel
theorem eX0_keepPart_151 : dec cX0_keepPart 151 (.aload_n 0) 1 152 := ⟨dX0_keepPart_151, rfl⟩
theorem dX0_keepPart_152 : decode cX0_keepPart 152 = .ok (.getfield 49, 3) := by decide +kernel
theorem eX0_keepPart_152 : dec cX0_keepPart 152 (.getfield 49) 3 155 := ⟨dX0_keepPart_152, rfl⟩
theorem dX0_keepPart_155 : decode cX0_keepPart 155 = .ok (.iload_n 1, 1) := by decide +kernel
theorem eX0_keepPart_155 : dec cX0_keepPart 155 (.iload_n 1) 1 156 := ⟨dX0_keepPart_155, rfl⟩
theorem dX0_keepPart_156 : decode cX0_keepPart 156 = .ok (.iconst 2, 1) := by decide +kernel
theorem eX0_keepPart_156 : dec cX0_keepPart 156 (.iconst 2) 1 157 := ⟨dX0_keepPart_156, rfl⟩
theorem dX0_keepPart_157 : decode cX0_keepPart 157 = .ok (.iadd, 1) := by decide +kernel
theorem eX0_keepPart_157 : dec cX0_keepPart 157 .iadd 1 158 := ⟨dX0_keepPart_157, rfl⟩
theorem dX0_keepPart_158 : decode cX0_keepPart 158 = .ok (.iload 4, 2) := by decide +kernel
theorem eX0_keepPart_158 : dec cX0_keepPart 158 (.iload 4) 2 160 := ⟨dX0_keepPart_158, rfl⟩
theorem dX0_keepPart_160 : decode cX0_keepPart 160 = .ok (.iastore, 1) := by decide +kernel
theorem eX0_keepPart_160 : dec cX0_keepPart 160 .iastore 1 161 := ⟨dX0_keepPart_160, rfl⟩
theorem dX0_keepPart_161 : decode cX0_keepPart 161 = .ok (.aload_n 0, 1) := by decide +kernel
theorem eX0_keepPart_161 : dec cX0_keepPart 161 (.aload_n 0) 1 162 := ⟨dX0_keepPart_161, rfl⟩
theorem dX0_keepPart_162 : decode cX0_keepPart 162 = .ok (.getfield 49, 3) := by decide +kernel
theorem eX0_keepPart_162 : dec cX0_keepPart 162 (.getfield 49) 3 165 := ⟨dX0_keepPart_162, rfl⟩
theorem dX0_keepPart_165 : decode cX0_keepPart 165 = .ok (.iload_n 1, 1) := by decide +kernel
theorem eX0_keepPart_165 : dec cX0_keepPart 165 (.iload_n 1) 1 166 := ⟨dX0_keepPart_165, rfl⟩
theorem dX0_keepPart_166 : decode cX0_keepPart 166 = .ok (.iconst 3, 1) := by decide +kernel
theorem eX0_keepPart_166 : dec cX0_keepPart 166 (.iconst 3) 1 167 := ⟨dX0_keepPart_166, rfl⟩
theorem dX0_keepPart_167 : decode cX0_keepPart 167 = .ok (.iadd, 1) := by decide +kernel
theorem eX0_keepPart_167 : dec cX0_keepPart 167 .iadd 1 168 := ⟨dX0_keepPart_167, rfl⟩
theorem dX0_keepPart_168 : decode cX0_keepPart 168 = .ok (.iload 5, 2) := by decide +kernel
theorem eX0_keepPart_168 : dec cX0_keepPart 168 (.iload 5) 2 170 := ⟨dX0_keepPart_168, rfl⟩
theorem dX0_keepPart_170 : decode cX0_keepPart 170 = .ok (.iastore, 1) := by decide +kernel
theorem eX0_keepPart_170 : dec cX0_keepPart 170 .iastore 1 171 := ⟨dX0_keepPart_170, rfl⟩
theorem dX0_keepPart_171 : decode cX0_keepPart 171 = .ok (.aload_n 0, 1) := by decide +kernel
theorem eX0_keepPart_171 : dec cX0_keepPart 171 (.aload_n 0) 1 172 := ⟨dX0_keepPart_171, rfl⟩
theorem dX0_keepPart_172 : decode cX0_keepPart 172 = .ok (.getfield 49, 3) := by decide +kernel
theorem eX0_keepPart_172 : dec cX0_keepPart 172 (.getfield 49) 3 175 := ⟨dX0_keepPart_172, rfl⟩
theorem dX0_keepPart_175 : decode cX0_keepPart 175 = .ok (.iload_n 1, 1) := by decide +kernel
theorem eX0_keepPart_175 : dec cX0_keepPart 175 (.iload_n 1) 1 176 := ⟨dX0_keepPart_175, rfl⟩
theorem dX0_keepPart_176 : decode cX0_keepPart 176 = .ok (.iconst 4, 1) := by decide +kernel
theorem eX0_keepPart_176 : dec cX0_keepPart 176 (.iconst 4) 1 177 := ⟨dX0_keepPart_176, rfl⟩
theorem dX0_keepPart_177 : decode cX0_keepPart 177 = .ok (.iadd, 1) := by decide +kernel
theorem eX0_keepPart_177 : dec cX0_keepPart 177 .iadd 1 178 := ⟨dX0_keepPart_177, rfl⟩
theorem dX0_keepPart_178 : decode cX0_keepPart 178 = .ok (.aload_n 0, 1) := by decide +kernel
theorem eX0_keepPart_178 : dec cX0_keepPart 178 (.aload_n 0) 1 179 := ⟨dX0_keepPart_178, rfl⟩
theorem dX0_keepPart_179 : decode cX0_keepPart 179 = .ok (.getfield 92, 3) := by decide +kernel
theorem eX0_keepPart_179 : dec cX0_keepPart 179 (.getfield 92) 3 182 := ⟨dX0_keepPart_179, rfl⟩
theorem dX0_keepPart_182 : decode cX0_keepPart 182 = .ok (.iastore, 1) := by decide +kernel
theorem eX0_keepPart_182 : dec cX0_keepPart 182 .iastore 1 183 := ⟨dX0_keepPart_182, rfl⟩
theorem dX0_keepPart_183 : decode cX0_keepPart 183 = .ok (.aload_n 0, 1) := by decide +kernel
theorem eX0_keepPart_183 : dec cX0_keepPart 183 (.aload_n 0) 1 184 := ⟨dX0_keepPart_183, rfl⟩
theorem dX0_keepPart_184 : decode cX0_keepPart 184 = .ok (.getfield 49, 3) := by decide +kernel
theorem eX0_keepPart_184 : dec cX0_keepPart 184 (.getfield 49) 3 187 := ⟨dX0_keepPart_184, rfl⟩
theorem dX0_keepPart_187 : decode cX0_keepPart 187 = .ok (.iload_n 1, 1) := by decide +kernel
theorem eX0_keepPart_187 : dec cX0_keepPart 187 (.iload_n 1) 1 188 := ⟨dX0_keepPart_187, rfl⟩
theorem dX0_keepPart_188 : decode cX0_keepPart 188 = .ok (.iconst 5, 1) := by decide +kernel
theorem eX0_keepPart_188 : dec cX0_keepPart 188 (.iconst 5) 1 189 := ⟨dX0_keepPart_188, rfl⟩
theorem dX0_keepPart_189 : decode cX0_keepPart 189 = .ok (.iadd, 1) := by decide +kernel
theorem eX0_keepPart_189 : dec cX0_keepPart 189 .iadd 1 190 := ⟨dX0_keepPart_189, rfl⟩
theorem dX0_keepPart_190 : decode cX0_keepPart 190 = .ok (.iload 6, 2) := by decide +kernel
theorem eX0_keepPart_190 : dec cX0_keepPart 190 (.iload 6) 2 192 := ⟨dX0_keepPart_190, rfl⟩
theorem dX0_keepPart_192 : decode cX0_keepPart 192 = .ok (.iastore, 1) := by decide +kernel
theorem eX0_keepPart_192 : dec cX0_keepPart 192 .iastore 1 193 := ⟨dX0_keepPart_192, rfl⟩
theorem dX0_keepPart_193 : decode cX0_keepPart 193 = .ok (.aload_n 0, 1) := by decide +kernel
theorem eX0_keepPart_193 : dec cX0_keepPart 193 (.aload_n 0) 1 194 := ⟨dX0_keepPart_193, rfl⟩
theorem dX0_keepPart_194 : decode cX0_keepPart 194 = .ok (.getfield 49, 3) := by decide +kernel
theorem eX0_keepPart_194 : dec cX0_keepPart 194 (.getfield 49) 3 197 := ⟨dX0_keepPart_194, rfl⟩
theorem dX0_keepPart_197 : decode cX0_keepPart 197 = .ok (.iload_n 1, 1) := by decide +kernel
theorem eX0_keepPart_197 : dec cX0_keepPart 197 (.iload_n 1) 1 198 := ⟨dX0_keepPart_197, rfl⟩
theorem dX0_keepPart_198 : decode cX0_keepPart 198 = .ok (.bipush 6, 2) := by decide +kernel
theorem eX0_keepPart_198 : dec cX0_keepPart 198 (.bipush 6) 2 200 := ⟨dX0_keepPart_198, rfl⟩
theorem dX0_keepPart_200 : decode cX0_keepPart 200 = .ok (.iadd, 1) := by decide +kernel
theorem eX0_keepPart_200 : dec cX0_keepPart 200 .iadd 1 201 := ⟨dX0_keepPart_200, rfl⟩
theorem dX0_keepPart_201 : decode cX0_keepPart 201 = .ok (.iload 7, 2) := by decide +kernel
theorem eX0_keepPart_201 : dec cX0_keepPart 201 (.iload 7) 2 203 := ⟨dX0_keepPart_201, rfl⟩
theorem dX0_keepPart_203 : decode cX0_keepPart 203 = .ok (.iastore, 1) := by decide +kernel
theorem eX0_keepPart_203 : dec cX0_keepPart 203 .iastore 1 204 := ⟨dX0_keepPart_203, rfl⟩
theorem dX0_keepPart_204 : decode cX0_keepPart 204 = .ok (.aload_n 0, 1) := by decide +kernel
theorem eX0_keepPart_204 : dec cX0_keepPart 204 (.aload_n 0) 1 205 := ⟨dX0_keepPart_204, rfl⟩
theorem dX0_keepPart_205 : decode cX0_keepPart 205 = .ok (.dup, 1) := by decide +kernel
theorem eX0_keepPart_205 : dec cX0_keepPart 205 .dup 1 206 := ⟨dX0_keepPart_205, rfl⟩
theorem dX0_keepPart_206 : decode cX0_keepPart 206 = .ok (.getfield 85, 3) := by decide +kernel
theorem eX0_keepPart_206 : dec cX0_keepPart 206 (.getfield 85) 3 209 := ⟨dX0_keepPart_206, rfl⟩
theorem dX0_keepPart_209 : decode cX0_keepPart 209 = .ok (.iconst 1, 1) := by decide +kernel
theorem eX0_keepPart_209 : dec cX0_keepPart 209 (.iconst 1) 1 210 := ⟨dX0_keepPart_209, rfl⟩
theorem dX0_keepPart_210 : decode cX0_keepPart 210 = .ok (.iadd, 1) := by decide +kernel
theorem eX0_keepPart_210 : dec cX0_keepPart 210 .iadd 1 211 := ⟨dX0_keepPart_210, rfl⟩
theorem dX0_keepPart_211 : decode cX0_keepPart 211 = .ok (.putfield 85, 3) := by decide +kernel
theorem eX0_keepPart_211 : dec cX0_keepPart 211 (.putfield 85) 3 214 := ⟨dX0_keepPart_211, rfl⟩
theorem dX0_keepPart_214 : decode cX0_keepPart 214 = .ok (.return_, 1) := by decide +kernel
theorem eX0_keepPart_214 : dec cX0_keepPart 214 .return_ 1 215 := ⟨dX0_keepPart_214, rfl⟩
set_option maxRecDepth 20000 in
theorem ggX0_shearAt_J9_floorDiv_7cf53 : GoodIn wsX0_shearAt wsJ9_floorDiv_7cf53 := goodIn_r _ [5] (by decide +kernel) (by decide +kernel)
set_option maxRecDepth 20000 in
theorem gX0_shearAt_J9_floorDiv_7cf53 : GoodIn wsX0_shearAt (va_wsS RX0 155 yJ9_floorDiv_7cf53 wsJ9_floorDiv_7cf53) := goodIn_app (goodIn_of _ (by decide +kernel)) ggX0_shearAt_J9_floorDiv_7cf53
set_option maxRecDepth 20000 in
theorem ggX0_shearAt_J9_floorMod_7cf53 : GoodIn wsX0_shearAt wsJ9_floorMod_7cf53 := goodIn_r _ [8] (by decide +kernel) (by decide +kernel)
set_option maxRecDepth 20000 in
theorem gX0_shearAt_J9_floorMod_7cf53 : GoodIn wsX0_shearAt (va_wsS RX0 158 yJ9_floorMod_7cf53 wsJ9_floorMod_7cf53) := goodIn_app (goodIn_of _ (by decide +kernel)) ggX0_shearAt_J9_floorMod_7cf53
theorem dX0_shearAt_0 : decode cX0_shearAt 0 = .ok (.iload_n 2, 1) := by decide +kernel
theorem eX0_shearAt_0 : dec cX0_shearAt 0 (.iload_n 2) 1 1 := ⟨dX0_shearAt_0, rfl⟩
theorem dX0_shearAt_1 : decode cX0_shearAt 1 = .ok (.iload_n 1, 1) := by decide +kernel
theorem eX0_shearAt_1 : dec cX0_shearAt 1 (.iload_n 1) 1 2 := ⟨dX0_shearAt_1, rfl⟩
theorem dX0_shearAt_2 : decode cX0_shearAt 2 = .ok (.imul, 1) := by decide +kernel
theorem eX0_shearAt_2 : dec cX0_shearAt 2 .imul 1 3 := ⟨dX0_shearAt_2, rfl⟩
theorem dX0_shearAt_3 : decode cX0_shearAt 3 = .ok (.bipush 32, 2) := by decide +kernel
theorem eX0_shearAt_3 : dec cX0_shearAt 3 (.bipush 32) 2 5 := ⟨dX0_shearAt_3, rfl⟩
theorem dX0_shearAt_5 : decode cX0_shearAt 5 = .ok (.invokestatic 155, 3) := by decide +kernel
theorem eX0_shearAt_5 : dec cX0_shearAt 5 (.invokestatic 155) 3 8 := ⟨dX0_shearAt_5, rfl⟩
theorem dX0_shearAt_8 : decode cX0_shearAt 8 = .ok (.aload_n 0, 1) := by decide +kernel
theorem eX0_shearAt_8 : dec cX0_shearAt 8 (.aload_n 0) 1 9 := ⟨dX0_shearAt_8, rfl⟩
theorem dX0_shearAt_9 : decode cX0_shearAt 9 = .ok (.getfield 22, 3) := by decide +kernel
theorem eX0_shearAt_9 : dec cX0_shearAt 9 (.getfield 22) 3 12 := ⟨dX0_shearAt_9, rfl⟩
theorem dX0_shearAt_12 : decode cX0_shearAt 12 = .ok (.invokestatic 158, 3) := by decide +kernel
theorem eX0_shearAt_12 : dec cX0_shearAt 12 (.invokestatic 158) 3 15 := ⟨dX0_shearAt_12, rfl⟩
theorem dX0_shearAt_15 : decode cX0_shearAt 15 = .ok (.ireturn, 1) := by decide +kernel
theorem eX0_shearAt_15 : dec cX0_shearAt 15 .ireturn 1 16 := ⟨dX0_shearAt_15, rfl⟩
set_option maxRecDepth 20000 in
theorem ggX0_sumOfSquares_J7_fill_53178 : GoodIn wsX0_sumOfSquares wsJ7_fill_53178 := goodIn_r _ [8] (by decide +kernel) (by decide +kernel)
set_option maxRecDepth 20000 in
theorem gX0_sumOfSquares_J7_fill_53178 : GoodIn wsX0_sumOfSquares (va_wsS RX0 142 yJ7_fill_53178 wsJ7_fill_53178) := goodIn_app (goodIn_of _ (by decide +kernel)) ggX0_sumOfSquares_J7_fill_53178
set_option maxRecDepth 20000 in
theorem ggX0_sumOfSquares_X0_shearAt : GoodIn wsX0_sumOfSquares wsX0_shearAt := goodIn_r _ [13, 3, 14, 15, 16, 17, 18, 19, 20, 21, 22, 23, 24, 25, 26, 27, 28, 29, 30, 31, 32, 33, 34, 35, 36] (by decide +kernel) (by decide +kernel)
set_option maxRecDepth 20000 in
theorem gX0_sumOfSquares_X0_shearAt : GoodIn wsX0_sumOfSquares (wsV RX0 101 RX0 yX0_shearAt wsX0_shearAt) := goodIn_app (goodIn_of _ (by decide +kernel)) ggX0_sumOfSquares_X0_shearAt
theorem dX0_sumOfSquares_0 : decode cX0_sumOfSquares 0 = .ok (.aload_n 0, 1) := by decide +kernel
theorem eX0_sumOfSquares_0 : dec cX0_sumOfSquares 0 (.aload_n 0) 1 1 := ⟨dX0_sumOfSquares_0, rfl⟩
theorem dX0_sumOfSquares_1 : decode cX0_sumOfSquares 1 = .ok (.getfield 43, 3) := by decide +kernel
theorem eX0_sumOfSquares_1 : dec cX0_sumOfSquares 1 (.getfield 43) 3 4 := ⟨dX0_sumOfSquares_1, rfl⟩
theorem dX0_sumOfSquares_4 : decode cX0_sumOfSquares 4 = .ok (.iconst 0, 1) := by decide +kernel
theorem eX0_sumOfSquares_4 : dec cX0_sumOfSquares 4 (.iconst 0) 1 5 := ⟨dX0_sumOfSquares_4, rfl⟩
theorem dX0_sumOfSquares_5 : decode cX0_sumOfSquares 5 = .ok (.invokestatic 142, 3) := by decide +kernel
theorem eX0_sumOfSquares_5 : dec cX0_sumOfSquares 5 (.invokestatic 142) 3 8 := ⟨dX0_sumOfSquares_5, rfl⟩
theorem dX0_sumOfSquares_8 : decode cX0_sumOfSquares 8 = .ok (.iconst 0, 1) := by decide +kernel
theorem eX0_sumOfSquares_8 : dec cX0_sumOfSquares 8 (.iconst 0) 1 9 := ⟨dX0_sumOfSquares_8, rfl⟩
theorem dX0_sumOfSquares_9 : decode cX0_sumOfSquares 9 = .ok (.istore_n 2, 1) := by decide +kernel
theorem eX0_sumOfSquares_9 : dec cX0_sumOfSquares 9 (.istore_n 2) 1 10 := ⟨dX0_sumOfSquares_9, rfl⟩
theorem dX0_sumOfSquares_10 : decode cX0_sumOfSquares 10 = .ok (.iload_n 2, 1) := by decide +kernel
theorem eX0_sumOfSquares_10 : dec cX0_sumOfSquares 10 (.iload_n 2) 1 11 := ⟨dX0_sumOfSquares_10, rfl⟩
theorem dX0_sumOfSquares_11 : decode cX0_sumOfSquares 11 = .ok (.aload_n 0, 1) := by decide +kernel
theorem eX0_sumOfSquares_11 : dec cX0_sumOfSquares 11 (.aload_n 0) 1 12 := ⟨dX0_sumOfSquares_11, rfl⟩
theorem dX0_sumOfSquares_12 : decode cX0_sumOfSquares 12 = .ok (.getfield 18, 3) := by decide +kernel
theorem eX0_sumOfSquares_12 : dec cX0_sumOfSquares 12 (.getfield 18) 3 15 := ⟨dX0_sumOfSquares_12, rfl⟩
theorem dX0_sumOfSquares_15 : decode cX0_sumOfSquares 15 = .ok (.if_icmp .ge 69, 3) := by decide +kernel
theorem eX0_sumOfSquares_15 : dec cX0_sumOfSquares 15 (.if_icmp .ge 69) 3 18 := ⟨dX0_sumOfSquares_15, rfl⟩
theorem dX0_sumOfSquares_18 : decode cX0_sumOfSquares 18 = .ok (.aload_n 0, 1) := by decide +kernel
theorem eX0_sumOfSquares_18 : dec cX0_sumOfSquares 18 (.aload_n 0) 1 19 := ⟨dX0_sumOfSquares_18, rfl⟩
theorem dX0_sumOfSquares_19 : decode cX0_sumOfSquares 19 = .ok (.iload_n 2, 1) := by decide +kernel
theorem eX0_sumOfSquares_19 : dec cX0_sumOfSquares 19 (.iload_n 2) 1 20 := ⟨dX0_sumOfSquares_19, rfl⟩
theorem dX0_sumOfSquares_20 : decode cX0_sumOfSquares 20 = .ok (.iload_n 1, 1) := by decide +kernel
theorem eX0_sumOfSquares_20 : dec cX0_sumOfSquares 20 (.iload_n 1) 1 21 := ⟨dX0_sumOfSquares_20, rfl⟩
theorem dX0_sumOfSquares_21 : decode cX0_sumOfSquares 21 = .ok (.invokevirtual 101, 3) := by decide +kernel
theorem eX0_sumOfSquares_21 : dec cX0_sumOfSquares 21 (.invokevirtual 101) 3 24 := ⟨dX0_sumOfSquares_21, rfl⟩
theorem dX0_sumOfSquares_24 : decode cX0_sumOfSquares 24 = .ok (.istore_n 3, 1) := by decide +kernel
theorem eX0_sumOfSquares_24 : dec cX0_sumOfSquares 24 (.istore_n 3) 1 25 := ⟨dX0_sumOfSquares_24, rfl⟩
theorem dX0_sumOfSquares_25 : decode cX0_sumOfSquares 25 = .ok (.iconst 0, 1) := by decide +kernel
theorem eX0_sumOfSquares_25 : dec cX0_sumOfSquares 25 (.iconst 0) 1 26 := ⟨dX0_sumOfSquares_25, rfl⟩
theorem dX0_sumOfSquares_26 : decode cX0_sumOfSquares 26 = .ok (.istore 4, 2) := by decide +kernel
theorem eX0_sumOfSquares_26 : dec cX0_sumOfSquares 26 (.istore 4) 2 28 := ⟨dX0_sumOfSquares_26, rfl⟩
theorem dX0_sumOfSquares_28 : decode cX0_sumOfSquares 28 = .ok (.iload 4, 2) := by decide +kernel
theorem eX0_sumOfSquares_28 : dec cX0_sumOfSquares 28 (.iload 4) 2 30 := ⟨dX0_sumOfSquares_28, rfl⟩
theorem dX0_sumOfSquares_30 : decode cX0_sumOfSquares 30 = .ok (.aload_n 0, 1) := by decide +kernel
theorem eX0_sumOfSquares_30 : dec cX0_sumOfSquares 30 (.aload_n 0) 1 31 := ⟨dX0_sumOfSquares_30, rfl⟩
theorem dX0_sumOfSquares_31 : decode cX0_sumOfSquares 31 = .ok (.getfield 22, 3) := by decide +kernel
theorem eX0_sumOfSquares_31 : dec cX0_sumOfSquares 31 (.getfield 22) 3 34 := ⟨dX0_sumOfSquares_31, rfl⟩
theorem dX0_sumOfSquares_34 : decode cX0_sumOfSquares 34 = .ok (.if_icmp .ge 44, 3) := by decide +kernel
theorem eX0_sumOfSquares_34 : dec cX0_sumOfSquares 34 (.if_icmp .ge 44) 3 37 := ⟨dX0_sumOfSquares_34, rfl⟩
theorem dX0_sumOfSquares_37 : decode cX0_sumOfSquares 37 = .ok (.aload_n 0, 1) := by decide +kernel
theorem eX0_sumOfSquares_37 : dec cX0_sumOfSquares 37 (.aload_n 0) 1 38 := ⟨dX0_sumOfSquares_37, rfl⟩
theorem dX0_sumOfSquares_38 : decode cX0_sumOfSquares 38 = .ok (.getfield 39, 3) := by decide +kernel
theorem eX0_sumOfSquares_38 : dec cX0_sumOfSquares 38 (.getfield 39) 3 41 := ⟨dX0_sumOfSquares_38, rfl⟩
theorem dX0_sumOfSquares_41 : decode cX0_sumOfSquares 41 = .ok (.iload 4, 2) := by decide +kernel
theorem eX0_sumOfSquares_41 : dec cX0_sumOfSquares 41 (.iload 4) 2 43 := ⟨dX0_sumOfSquares_41, rfl⟩
theorem dX0_sumOfSquares_43 : decode cX0_sumOfSquares 43 = .ok (.aload_n 0, 1) := by decide +kernel
theorem eX0_sumOfSquares_43 : dec cX0_sumOfSquares 43 (.aload_n 0) 1 44 := ⟨dX0_sumOfSquares_43, rfl⟩
theorem dX0_sumOfSquares_44 : decode cX0_sumOfSquares 44 = .ok (.getfield 18, 3) := by decide +kernel
theorem eX0_sumOfSquares_44 : dec cX0_sumOfSquares 44 (.getfield 18) 3 47 := ⟨dX0_sumOfSquares_44, rfl⟩
theorem dX0_sumOfSquares_47 : decode cX0_sumOfSquares 47 = .ok (.imul, 1) := by decide +kernel
theorem eX0_sumOfSquares_47 : dec cX0_sumOfSquares 47 .imul 1 48 := ⟨dX0_sumOfSquares_47, rfl⟩
theorem dX0_sumOfSquares_48 : decode cX0_sumOfSquares 48 = .ok (.iload_n 2, 1) := by decide +kernel
theorem eX0_sumOfSquares_48 : dec cX0_sumOfSquares 48 (.iload_n 2) 1 49 := ⟨dX0_sumOfSquares_48, rfl⟩
theorem dX0_sumOfSquares_49 : decode cX0_sumOfSquares 49 = .ok (.iadd, 1) := by decide +kernel
theorem eX0_sumOfSquares_49 : dec cX0_sumOfSquares 49 .iadd 1 50 := ⟨dX0_sumOfSquares_49, rfl⟩
theorem dX0_sumOfSquares_50 : decode cX0_sumOfSquares 50 = .ok (.baload, 1) := by decide +kernel
theorem eX0_sumOfSquares_50 : dec cX0_sumOfSquares 50 .baload 1 51 := ⟨dX0_sumOfSquares_50, rfl⟩
theorem dX0_sumOfSquares_51 : decode cX0_sumOfSquares 51 = .ok (.ifCond .eq 21, 3) := by decide +kernel
theorem eX0_sumOfSquares_51 : dec cX0_sumOfSquares 51 (.ifCond .eq 21) 3 54 := ⟨dX0_sumOfSquares_51, rfl⟩
theorem dX0_sumOfSquares_54 : decode cX0_sumOfSquares 54 = .ok (.aload_n 0, 1) := by decide +kernel
theorem eX0_sumOfSquares_54 : dec cX0_sumOfSquares 54 (.aload_n 0) 1 55 := ⟨dX0_sumOfSquares_54, rfl⟩
theorem dX0_sumOfSquares_55 : decode cX0_sumOfSquares 55 = .ok (.getfield 43, 3) := by decide +kernel
theorem eX0_sumOfSquares_55 : dec cX0_sumOfSquares 55 (.getfield 43) 3 58 := ⟨dX0_sumOfSquares_55, rfl⟩
theorem dX0_sumOfSquares_58 : decode cX0_sumOfSquares 58 = .ok (.iload 4, 2) := by decide +kernel
theorem eX0_sumOfSquares_58 : dec cX0_sumOfSquares 58 (.iload 4) 2 60 := ⟨dX0_sumOfSquares_58, rfl⟩
theorem dX0_sumOfSquares_60 : decode cX0_sumOfSquares 60 = .ok (.iload_n 3, 1) := by decide +kernel
theorem eX0_sumOfSquares_60 : dec cX0_sumOfSquares 60 (.iload_n 3) 1 61 := ⟨dX0_sumOfSquares_60, rfl⟩
theorem dX0_sumOfSquares_61 : decode cX0_sumOfSquares 61 = .ok (.iadd, 1) := by decide +kernel
theorem eX0_sumOfSquares_61 : dec cX0_sumOfSquares 61 .iadd 1 62 := ⟨dX0_sumOfSquares_61, rfl⟩
theorem dX0_sumOfSquares_62 : decode cX0_sumOfSquares 62 = .ok (.aload_n 0, 1) := by decide +kernel
theorem eX0_sumOfSquares_62 : dec cX0_sumOfSquares 62 (.aload_n 0) 1 63 := ⟨dX0_sumOfSquares_62, rfl⟩
theorem dX0_sumOfSquares_63 : decode cX0_sumOfSquares 63 = .ok (.getfield 22, 3) := by decide +kernel
theorem eX0_sumOfSquares_63 : dec cX0_sumOfSquares 63 (.getfield 22) 3 66 := ⟨dX0_sumOfSquares_63, rfl⟩
theorem dX0_sumOfSquares_66 : decode cX0_sumOfSquares 66 = .ok (.irem, 1) := by decide +kernel
theorem eX0_sumOfSquares_66 : dec cX0_sumOfSquares 66 .irem 1 67 := ⟨dX0_sumOfSquares_66, rfl⟩
theorem dX0_sumOfSquares_67 : decode cX0_sumOfSquares 67 = .ok (.dup2, 1) := by decide +kernel
theorem eX0_sumOfSquares_67 : dec cX0_sumOfSquares 67 .dup2 1 68 := ⟨dX0_sumOfSquares_67, rfl⟩
theorem dX0_sumOfSquares_68 : decode cX0_sumOfSquares 68 = .ok (.iaload, 1) := by decide +kernel
theorem eX0_sumOfSquares_68 : dec cX0_sumOfSquares 68 .iaload 1 69 := ⟨dX0_sumOfSquares_68, rfl⟩
theorem dX0_sumOfSquares_69 : decode cX0_sumOfSquares 69 = .ok (.iconst 1, 1) := by decide +kernel
theorem eX0_sumOfSquares_69 : dec cX0_sumOfSquares 69 (.iconst 1) 1 70 := ⟨dX0_sumOfSquares_69, rfl⟩
theorem dX0_sumOfSquares_70 : decode cX0_sumOfSquares 70 = .ok (.iadd, 1) := by decide +kernel
theorem eX0_sumOfSquares_70 : dec cX0_sumOfSquares 70 .iadd 1 71 := ⟨dX0_sumOfSquares_70, rfl⟩
theorem dX0_sumOfSquares_71 : decode cX0_sumOfSquares 71 = .ok (.iastore, 1) := by decide +kernel
theorem eX0_sumOfSquares_71 : dec cX0_sumOfSquares 71 .iastore 1 72 := ⟨dX0_sumOfSquares_71, rfl⟩
theorem dX0_sumOfSquares_72 : decode cX0_sumOfSquares 72 = .ok (.iinc 4 1, 3) := by decide +kernel
theorem eX0_sumOfSquares_72 : dec cX0_sumOfSquares 72 (.iinc 4 1) 3 75 := ⟨dX0_sumOfSquares_72, rfl⟩
theorem dX0_sumOfSquares_75 : decode cX0_sumOfSquares 75 = .ok (.goto (-47), 3) := by decide +kernel
theorem eX0_sumOfSquares_75 : dec cX0_sumOfSquares 75 (.goto (-47)) 3 78 := ⟨dX0_sumOfSquares_75, rfl⟩
theorem dX0_sumOfSquares_78 : decode cX0_sumOfSquares 78 = .ok (.iinc 2 1, 3) := by decide +kernel
theorem eX0_sumOfSquares_78 : dec cX0_sumOfSquares 78 (.iinc 2 1) 3 81 := ⟨dX0_sumOfSquares_78, rfl⟩
theorem dX0_sumOfSquares_81 : decode cX0_sumOfSquares 81 = .ok (.goto (-71), 3) := by decide +kernel
theorem eX0_sumOfSquares_81 : dec cX0_sumOfSquares 81 (.goto (-71)) 3 84 := ⟨dX0_sumOfSquares_81, rfl⟩
theorem dX0_sumOfSquares_84 : decode cX0_sumOfSquares 84 = .ok (.iconst 0, 1) := by decide +kernel
theorem eX0_sumOfSquares_84 : dec cX0_sumOfSquares 84 (.iconst 0) 1 85 := ⟨dX0_sumOfSquares_84, rfl⟩
theorem dX0_sumOfSquares_85 : decode cX0_sumOfSquares 85 = .ok (.istore_n 2, 1) := by decide +kernel
theorem eX0_sumOfSquares_85 : dec cX0_sumOfSquares 85 (.istore_n 2) 1 86 := ⟨dX0_sumOfSquares_85, rfl⟩
theorem dX0_sumOfSquares_86 : decode cX0_sumOfSquares 86 = .ok (.iconst 0, 1) := by decide +kernel
theorem eX0_sumOfSquares_86 : dec cX0_sumOfSquares 86 (.iconst 0) 1 87 := ⟨dX0_sumOfSquares_86, rfl⟩
theorem dX0_sumOfSquares_87 : decode cX0_sumOfSquares 87 = .ok (.istore_n 3, 1) := by decide +kernel
theorem eX0_sumOfSquares_87 : dec cX0_sumOfSquares 87 (.istore_n 3) 1 88 := ⟨dX0_sumOfSquares_87, rfl⟩
theorem dX0_sumOfSquares_88 : decode cX0_sumOfSquares 88 = .ok (.iload_n 3, 1) := by decide +kernel
theorem eX0_sumOfSquares_88 : dec cX0_sumOfSquares 88 (.iload_n 3) 1 89 := ⟨dX0_sumOfSquares_88, rfl⟩
theorem dX0_sumOfSquares_89 : decode cX0_sumOfSquares 89 = .ok (.aload_n 0, 1) := by decide +kernel
theorem eX0_sumOfSquares_89 : dec cX0_sumOfSquares 89 (.aload_n 0) 1 90 := ⟨dX0_sumOfSquares_89, rfl⟩
theorem dX0_sumOfSquares_90 : decode cX0_sumOfSquares 90 = .ok (.getfield 22, 3) := by decide +kernel
theorem eX0_sumOfSquares_90 : dec cX0_sumOfSquares 90 (.getfield 22) 3 93 := ⟨dX0_sumOfSquares_90, rfl⟩
theorem dX0_sumOfSquares_93 : decode cX0_sumOfSquares 93 = .ok (.if_icmp .ge 25, 3) := by decide +kernel
theorem eX0_sumOfSquares_93 : dec cX0_sumOfSquares 93 (.if_icmp .ge 25) 3 96 := ⟨dX0_sumOfSquares_93, rfl⟩
theorem dX0_sumOfSquares_96 : decode cX0_sumOfSquares 96 = .ok (.iload_n 2, 1) := by decide +kernel
theorem eX0_sumOfSquares_96 : dec cX0_sumOfSquares 96 (.iload_n 2) 1 97 := ⟨dX0_sumOfSquares_96, rfl⟩
theorem dX0_sumOfSquares_97 : decode cX0_sumOfSquares 97 = .ok (.aload_n 0, 1) := by decide +kernel
theorem eX0_sumOfSquares_97 : dec cX0_sumOfSquares 97 (.aload_n 0) 1 98 := ⟨dX0_sumOfSquares_97, rfl⟩
theorem dX0_sumOfSquares_98 : decode cX0_sumOfSquares 98 = .ok (.getfield 43, 3) := by decide +kernel
theorem eX0_sumOfSquares_98 : dec cX0_sumOfSquares 98 (.getfield 43) 3 101 := ⟨dX0_sumOfSquares_98, rfl⟩
theorem dX0_sumOfSquares_101 : decode cX0_sumOfSquares 101 = .ok (.iload_n 3, 1) := by decide +kernel
theorem eX0_sumOfSquares_101 : dec cX0_sumOfSquares 101 (.iload_n 3) 1 102 := ⟨dX0_sumOfSquares_101, rfl⟩
theorem dX0_sumOfSquares_102 : decode cX0_sumOfSquares 102 = .ok (.iaload, 1) := by decide +kernel
theorem eX0_sumOfSquares_102 : dec cX0_sumOfSquares 102 .iaload 1 103 := ⟨dX0_sumOfSquares_102, rfl⟩
theorem dX0_sumOfSquares_103 : decode cX0_sumOfSquares 103 = .ok (.aload_n 0, 1) := by decide +kernel
theorem eX0_sumOfSquares_103 : dec cX0_sumOfSquares 103 (.aload_n 0) 1 104 := ⟨dX0_sumOfSquares_103, rfl⟩
theorem dX0_sumOfSquares_104 : decode cX0_sumOfSquares 104 = .ok (.getfield 43, 3) := by decide +kernel
theorem eX0_sumOfSquares_104 : dec cX0_sumOfSquares 104 (.getfield 43) 3 107 := ⟨dX0_sumOfSquares_104, rfl⟩
theorem dX0_sumOfSquares_107 : decode cX0_sumOfSquares 107 = .ok (.iload_n 3, 1) := by decide +kernel
theorem eX0_sumOfSquares_107 : dec cX0_sumOfSquares 107 (.iload_n 3) 1 108 := ⟨dX0_sumOfSquares_107, rfl⟩
theorem dX0_sumOfSquares_108 : decode cX0_sumOfSquares 108 = .ok (.iaload, 1) := by decide +kernel
theorem eX0_sumOfSquares_108 : dec cX0_sumOfSquares 108 .iaload 1 109 := ⟨dX0_sumOfSquares_108, rfl⟩
theorem dX0_sumOfSquares_109 : decode cX0_sumOfSquares 109 = .ok (.imul, 1) := by decide +kernel
theorem eX0_sumOfSquares_109 : dec cX0_sumOfSquares 109 .imul 1 110 := ⟨dX0_sumOfSquares_109, rfl⟩
theorem dX0_sumOfSquares_110 : decode cX0_sumOfSquares 110 = .ok (.iadd, 1) := by decide +kernel
theorem eX0_sumOfSquares_110 : dec cX0_sumOfSquares 110 .iadd 1 111 := ⟨dX0_sumOfSquares_110, rfl⟩
theorem dX0_sumOfSquares_111 : decode cX0_sumOfSquares 111 = .ok (.istore_n 2, 1) := by decide +kernel
theorem eX0_sumOfSquares_111 : dec cX0_sumOfSquares 111 (.istore_n 2) 1 112 := ⟨dX0_sumOfSquares_111, rfl⟩
theorem dX0_sumOfSquares_112 : decode cX0_sumOfSquares 112 = .ok (.iinc 3 1, 3) := by decide +kernel
theorem eX0_sumOfSquares_112 : dec cX0_sumOfSquares 112 (.iinc 3 1) 3 115 := ⟨dX0_sumOfSquares_112, rfl⟩
theorem dX0_sumOfSquares_115 : decode cX0_sumOfSquares 115 = .ok (.goto (-27), 3) := by decide +kernel
theorem eX0_sumOfSquares_115 : dec cX0_sumOfSquares 115 (.goto (-27)) 3 118 := ⟨dX0_sumOfSquares_115, rfl⟩
theorem dX0_sumOfSquares_118 : decode cX0_sumOfSquares 118 = .ok (.iload_n 2, 1) := by decide +kernel
theorem eX0_sumOfSquares_118 : dec cX0_sumOfSquares 118 (.iload_n 2) 1 119 := ⟨dX0_sumOfSquares_118, rfl⟩
theorem dX0_sumOfSquares_119 : decode cX0_sumOfSquares 119 = .ok (.ireturn, 1) := by decide +kernel
theorem eX0_sumOfSquares_119 : dec cX0_sumOfSquares 119 .ireturn 1 120 := ⟨dX0_sumOfSquares_119, rfl⟩
theorem dX0_packStretch_0 : decode cX0_packStretch 0 = .ok (.aload_n 0, 1) := by decide +kernel
theorem eX0_packStretch_0 : dec cX0_packStretch 0 (.aload_n 0) 1 1 := ⟨dX0_packStretch_0, rfl⟩
theorem dX0_packStretch_1 : decode cX0_packStretch 1 = .ok (.getfield 108, 3) := by decide +kernel
theorem eX0_packStretch_1 : dec cX0_packStretch 1 (.getfield 108) 3 4 := ⟨dX0_packStretch_1, rfl⟩
theorem dX0_packStretch_4 : decode cX0_packStretch 4 = .ok (.iconst 2, 1) := by decide +kernel
theorem eX0_packStretch_4 : dec cX0_packStretch 4 (.iconst 2) 1 5 := ⟨dX0_packStretch_4, rfl⟩
theorem dX0_packStretch_5 : decode cX0_packStretch 5 = .ok (.iadd, 1) := by decide +kernel
theorem eX0_packStretch_5 : dec cX0_packStretch 5 .iadd 1 6 := ⟨dX0_packStretch_5, rfl⟩
theorem dX0_packStretch_6 : decode cX0_packStretch 6 = .ok (.aload_n 0, 1) := by decide +kernel
theorem eX0_packStretch_6 : dec cX0_packStretch 6 (.aload_n 0) 1 7 := ⟨dX0_packStretch_6, rfl⟩
theorem dX0_packStretch_7 : decode cX0_packStretch 7 = .ok (.getfield 52, 3) := by decide +kernel
theorem eX0_packStretch_7 : dec cX0_packStretch 7 (.getfield 52) 3 10 := ⟨dX0_packStretch_7, rfl⟩
theorem dX0_packStretch_10 : decode cX0_packStretch 10 = .ok (.arraylength, 1) := by decide +kernel
theorem eX0_packStretch_10 : dec cX0_packStretch 10 .arraylength 1 11 := ⟨dX0_packStretch_10, rfl⟩
theorem dX0_packStretch_11 : decode cX0_packStretch 11 = .ok (.if_icmp .gt 36, 3) := by decide +kernel
theorem eX0_packStretch_11 : dec cX0_packStretch 11 (.if_icmp .gt 36) 3 14 := ⟨dX0_packStretch_11, rfl⟩
theorem dX0_packStretch_14 : decode cX0_packStretch 14 = .ok (.aload_n 0, 1) := by decide +kernel
theorem eX0_packStretch_14 : dec cX0_packStretch 14 (.aload_n 0) 1 15 := ⟨dX0_packStretch_14, rfl⟩
theorem dX0_packStretch_15 : decode cX0_packStretch 15 = .ok (.getfield 52, 3) := by decide +kernel
theorem eX0_packStretch_15 : dec cX0_packStretch 15 (.getfield 52) 3 18 := ⟨dX0_packStretch_15, rfl⟩
theorem dX0_packStretch_18 : decode cX0_packStretch 18 = .ok (.aload_n 0, 1) := by decide +kernel
theorem eX0_packStretch_18 : dec cX0_packStretch 18 (.aload_n 0) 1 19 := ⟨dX0_packStretch_18, rfl⟩
theorem dX0_packStretch_19 : decode cX0_packStretch 19 = .ok (.getfield 108, 3) := by decide +kernel
theorem eX0_packStretch_19 : dec cX0_packStretch 19 (.getfield 108) 3 22 := ⟨dX0_packStretch_19, rfl⟩
theorem dX0_packStretch_22 : decode cX0_packStretch 22 = .ok (.iload_n 1, 1) := by decide +kernel
theorem eX0_packStretch_22 : dec cX0_packStretch 22 (.iload_n 1) 1 23 := ⟨dX0_packStretch_22, rfl⟩
theorem dX0_packStretch_23 : decode cX0_packStretch 23 = .ok (.i2b, 1) := by decide +kernel
theorem eX0_packStretch_23 : dec cX0_packStretch 23 .i2b 1 24 := ⟨dX0_packStretch_23, rfl⟩
theorem dX0_packStretch_24 : decode cX0_packStretch 24 = .ok (.bastore, 1) := by decide +kernel
theorem eX0_packStretch_24 : dec cX0_packStretch 24 .bastore 1 25 := ⟨dX0_packStretch_24, rfl⟩
theorem dX0_packStretch_25 : decode cX0_packStretch 25 = .ok (.aload_n 0, 1) := by decide +kernel
theorem eX0_packStretch_25 : dec cX0_packStretch 25 (.aload_n 0) 1 26 := ⟨dX0_packStretch_25, rfl⟩
theorem dX0_packStretch_26 : decode cX0_packStretch 26 = .ok (.getfield 52, 3) := by decide +kernel
theorem eX0_packStretch_26 : dec cX0_packStretch 26 (.getfield 52) 3 29 := ⟨dX0_packStretch_26, rfl⟩
theorem dX0_packStretch_29 : decode cX0_packStretch 29 = .ok (.aload_n 0, 1) := by decide +kernel
theorem eX0_packStretch_29 : dec cX0_packStretch 29 (.aload_n 0) 1 30 := ⟨dX0_packStretch_29, rfl⟩
theorem dX0_packStretch_30 : decode cX0_packStretch 30 = .ok (.getfield 108, 3) := by decide +kernel
theorem eX0_packStretch_30 : dec cX0_packStretch 30 (.getfield 108) 3 33 := ⟨dX0_packStretch_30, rfl⟩
theorem dX0_packStretch_33 : decode cX0_packStretch 33 = .ok (.iconst 1, 1) := by decide +kernel
theorem eX0_packStretch_33 : dec cX0_packStretch 33 (.iconst 1) 1 34 := ⟨dX0_packStretch_33, rfl⟩
theorem dX0_packStretch_34 : decode cX0_packStretch 34 = .ok (.iadd, 1) := by decide +kernel
theorem eX0_packStretch_34 : dec cX0_packStretch 34 .iadd 1 35 := ⟨dX0_packStretch_34, rfl⟩
theorem dX0_packStretch_35 : decode cX0_packStretch 35 = .ok (.iload_n 2, 1) := by decide +kernel
theorem eX0_packStretch_35 : dec cX0_packStretch 35 (.iload_n 2) 1 36 := ⟨dX0_packStretch_35, rfl⟩
theorem dX0_packStretch_36 : decode cX0_packStretch 36 = .ok (.bastore, 1) := by decide +kernel
theorem eX0_packStretch_36 : dec cX0_packStretch 36 .bastore 1 37 := ⟨dX0_packStretch_36, rfl⟩
theorem dX0_packStretch_37 : decode cX0_packStretch 37 = .ok (.aload_n 0, 1) := by decide +kernel
theorem eX0_packStretch_37 : dec cX0_packStretch 37 (.aload_n 0) 1 38 := ⟨dX0_packStretch_37, rfl⟩
theorem dX0_packStretch_38 : decode cX0_packStretch 38 = .ok (.dup, 1) := by decide +kernel
theorem eX0_packStretch_38 : dec cX0_packStretch 38 .dup 1 39 := ⟨dX0_packStretch_38, rfl⟩
theorem dX0_packStretch_39 : decode cX0_packStretch 39 = .ok (.getfield 108, 3) := by decide +kernel
theorem eX0_packStretch_39 : dec cX0_packStretch 39 (.getfield 108) 3 42 := ⟨dX0_packStretch_39, rfl⟩
theorem dX0_packStretch_42 : decode cX0_packStretch 42 = .ok (.iconst 2, 1) := by decide +kernel
theorem eX0_packStretch_42 : dec cX0_packStretch 42 (.iconst 2) 1 43 := ⟨dX0_packStretch_42, rfl⟩
theorem dX0_packStretch_43 : decode cX0_packStretch 43 = .ok (.iadd, 1) := by decide +kernel
theorem eX0_packStretch_43 : dec cX0_packStretch 43 .iadd 1 44 := ⟨dX0_packStretch_43, rfl⟩
theorem dX0_packStretch_44 : decode cX0_packStretch 44 = .ok (.putfield 108, 3) := by decide +kernel
theorem eX0_packStretch_44 : dec cX0_packStretch 44 (.putfield 108) 3 47 := ⟨dX0_packStretch_44, rfl⟩
theorem dX0_packStretch_47 : decode cX0_packStretch 47 = .ok (.return_, 1) := by decide +kernel
theorem eX0_packStretch_47 : dec cX0_packStretch 47 .return_ 1 48 := ⟨dX0_packStretch_47, rfl⟩
theorem dX0_readCollected_0 : decode cX0_readCollected 0 = .ok (.iconst 0, 1) := by decide +kernel
theorem eX0_readCollected_0 : dec cX0_readCollected 0 (.iconst 0) 1 1 := ⟨dX0_readCollected_0, rfl⟩
theorem dX0_readCollected_1 : decode cX0_readCollected 1 = .ok (.istore_n 1, 1) := by decide +kernel
theorem eX0_readCollected_1 : dec cX0_readCollected 1 (.istore_n 1) 1 2 := ⟨dX0_readCollected_1, rfl⟩
theorem dX0_readCollected_2 : decode cX0_readCollected 2 = .ok (.iconst 0, 1) := by decide +kernel
theorem eX0_readCollected_2 : dec cX0_readCollected 2 (.iconst 0) 1 3 := ⟨dX0_readCollected_2, rfl⟩
theorem dX0_readCollected_3 : decode cX0_readCollected 3 = .ok (.istore_n 2, 1) := by decide +kernel
theorem eX0_readCollected_3 : dec cX0_readCollected 3 (.istore_n 2) 1 4 := ⟨dX0_readCollected_3, rfl⟩
theorem dX0_readCollected_4 : decode cX0_readCollected 4 = .ok (.iload_n 2, 1) := by decide +kernel
theorem eX0_readCollected_4 : dec cX0_readCollected 4 (.iload_n 2) 1 5 := ⟨dX0_readCollected_4, rfl⟩
theorem dX0_readCollected_5 : decode cX0_readCollected 5 = .ok (.aload_n 0, 1) := by decide +kernel
theorem eX0_readCollected_5 : dec cX0_readCollected 5 (.aload_n 0) 1 6 := ⟨dX0_readCollected_5, rfl⟩
theorem dX0_readCollected_6 : decode cX0_readCollected 6 = .ok (.getfield 117, 3) := by decide +kernel
theorem eX0_readCollected_6 : dec cX0_readCollected 6 (.getfield 117) 3 9 := ⟨dX0_readCollected_6, rfl⟩
theorem dX0_readCollected_9 : decode cX0_readCollected 9 = .ok (.if_icmp .ge 91, 3) := by decide +kernel
theorem eX0_readCollected_9 : dec cX0_readCollected 9 (.if_icmp .ge 91) 3 12 := ⟨dX0_readCollected_9, rfl⟩
theorem dX0_readCollected_12 : decode cX0_readCollected 12 = .ok (.aload_n 0, 1) := by decide +kernel
theorem eX0_readCollected_12 : dec cX0_readCollected 12 (.aload_n 0) 1 13 := ⟨dX0_readCollected_12, rfl⟩
theorem dX0_readCollected_13 : decode cX0_readCollected 13 = .ok (.getfield 55, 3) := by decide +kernel
theorem eX0_readCollected_13 : dec cX0_readCollected 13 (.getfield 55) 3 16 := ⟨dX0_readCollected_13, rfl⟩
theorem dX0_readCollected_16 : decode cX0_readCollected 16 = .ok (.iload_n 2, 1) := by decide +kernel
theorem eX0_readCollected_16 : dec cX0_readCollected 16 (.iload_n 2) 1 17 := ⟨dX0_readCollected_16, rfl⟩
theorem dX0_readCollected_17 : decode cX0_readCollected 17 = .ok (.baload, 1) := by decide +kernel
theorem eX0_readCollected_17 : dec cX0_readCollected 17 .baload 1 18 := ⟨dX0_readCollected_17, rfl⟩
theorem dX0_readCollected_18 : decode cX0_readCollected 18 = .ok (.sipush 255, 3) := by decide +kernel
theorem eX0_readCollected_18 : dec cX0_readCollected 18 (.sipush 255) 3 21 := ⟨dX0_readCollected_18, rfl⟩
theorem dX0_readCollected_21 : decode cX0_readCollected 21 = .ok (.iand, 1) := by decide +kernel
theorem eX0_readCollected_21 : dec cX0_readCollected 21 .iand 1 22 := ⟨dX0_readCollected_21, rfl⟩
theorem dX0_readCollected_22 : decode cX0_readCollected 22 = .ok (.istore_n 3, 1) := by decide +kernel
theorem eX0_readCollected_22 : dec cX0_readCollected 22 (.istore_n 3) 1 23 := ⟨dX0_readCollected_22, rfl⟩
theorem dX0_readCollected_23 : decode cX0_readCollected 23 = .ok (.iload_n 3, 1) := by decide +kernel
theorem eX0_readCollected_23 : dec cX0_readCollected 23 (.iload_n 3) 1 24 := ⟨dX0_readCollected_23, rfl⟩
theorem dX0_readCollected_24 : decode cX0_readCollected 24 = .ok (.ifCond .eq 14, 3) := by decide +kernel
theorem eX0_readCollected_24 : dec cX0_readCollected 24 (.ifCond .eq 14) 3 27 := ⟨dX0_readCollected_24, rfl⟩
theorem dX0_readCollected_27 : decode cX0_readCollected 27 = .ok (.iload_n 3, 1) := by decide +kernel
theorem eX0_readCollected_27 : dec cX0_readCollected 27 (.iload_n 3) 1 28 := ⟨dX0_readCollected_27, rfl⟩
theorem dX0_readCollected_28 : decode cX0_readCollected 28 = .ok (.aload_n 0, 1) := by decide +kernel
theorem eX0_readCollected_28 : dec cX0_readCollected 28 (.aload_n 0) 1 29 := ⟨dX0_readCollected_28, rfl⟩
theorem dX0_readCollected_29 : decode cX0_readCollected 29 = .ok (.getfield 29, 3) := by decide +kernel
theorem eX0_readCollected_29 : dec cX0_readCollected 29 (.getfield 29) 3 32 := ⟨dX0_readCollected_29, rfl⟩
theorem dX0_readCollected_32 : decode cX0_readCollected 32 = .ok (.arraylength, 1) := by decide +kernel
theorem eX0_readCollected_32 : dec cX0_readCollected 32 .arraylength 1 33 := ⟨dX0_readCollected_32, rfl⟩
theorem dX0_readCollected_33 : decode cX0_readCollected 33 = .ok (.iload_n 1, 1) := by decide +kernel
theorem eX0_readCollected_33 : dec cX0_readCollected 33 (.iload_n 1) 1 34 := ⟨dX0_readCollected_33, rfl⟩
theorem dX0_readCollected_34 : decode cX0_readCollected 34 = .ok (.isub, 1) := by decide +kernel
theorem eX0_readCollected_34 : dec cX0_readCollected 34 .isub 1 35 := ⟨dX0_readCollected_34, rfl⟩
theorem dX0_readCollected_35 : decode cX0_readCollected 35 = .ok (.if_icmp .le 5, 3) := by decide +kernel
theorem eX0_readCollected_35 : dec cX0_readCollected 35 (.if_icmp .le 5) 3 38 := ⟨dX0_readCollected_35, rfl⟩
theorem dX0_readCollected_38 : decode cX0_readCollected 38 = .ok (.iload_n 2, 1) := by decide +kernel
theorem eX0_readCollected_38 : dec cX0_readCollected 38 (.iload_n 2) 1 39 := ⟨dX0_readCollected_38, rfl⟩
theorem dX0_readCollected_39 : decode cX0_readCollected 39 = .ok (.ireturn, 1) := by decide +kernel
theorem eX0_readCollected_39 : dec cX0_readCollected 39 .ireturn 1 40 := ⟨dX0_readCollected_39, rfl⟩
theorem dX0_readCollected_40 : decode cX0_readCollected 40 = .ok (.iload_n 2, 1) := by decide +kernel
theorem eX0_readCollected_40 : dec cX0_readCollected 40 (.iload_n 2) 1 41 := ⟨dX0_readCollected_40, rfl⟩
theorem dX0_readCollected_41 : decode cX0_readCollected 41 = .ok (.iconst 1, 1) := by decide +kernel
theorem eX0_readCollected_41 : dec cX0_readCollected 41 (.iconst 1) 1 42 := ⟨dX0_readCollected_41, rfl⟩
theorem dX0_readCollected_42 : decode cX0_readCollected 42 = .ok (.iadd, 1) := by decide +kernel
theorem eX0_readCollected_42 : dec cX0_readCollected 42 .iadd 1 43 := ⟨dX0_readCollected_42, rfl⟩
theorem dX0_readCollected_43 : decode cX0_readCollected 43 = .ok (.aload_n 0, 1) := by decide +kernel
theorem eX0_readCollected_43 : dec cX0_readCollected 43 (.aload_n 0) 1 44 := ⟨dX0_readCollected_43, rfl⟩
theorem dX0_readCollected_44 : decode cX0_readCollected 44 = .ok (.getfield 117, 3) := by decide +kernel
theorem eX0_readCollected_44 : dec cX0_readCollected 44 (.getfield 117) 3 47 := ⟨dX0_readCollected_44, rfl⟩
theorem dX0_readCollected_47 : decode cX0_readCollected 47 = .ok (.if_icmp .lt 8, 3) := by decide +kernel
theorem eX0_readCollected_47 : dec cX0_readCollected 47 (.if_icmp .lt 8) 3 50 := ⟨dX0_readCollected_47, rfl⟩
theorem dX0_readCollected_50 : decode cX0_readCollected 50 = .ok (.aload_n 0, 1) := by decide +kernel
theorem eX0_readCollected_50 : dec cX0_readCollected 50 (.aload_n 0) 1 51 := ⟨dX0_readCollected_50, rfl⟩
theorem dX0_readCollected_51 : decode cX0_readCollected 51 = .ok (.getfield 117, 3) := by decide +kernel
theorem eX0_readCollected_51 : dec cX0_readCollected 51 (.getfield 117) 3 54 := ⟨dX0_readCollected_51, rfl⟩
theorem dX0_readCollected_54 : decode cX0_readCollected 54 = .ok (.ireturn, 1) := by decide +kernel
theorem eX0_readCollected_54 : dec cX0_readCollected 54 .ireturn 1 55 := ⟨dX0_readCollected_54, rfl⟩
theorem dX0_readCollected_55 : decode cX0_readCollected 55 = .ok (.iload_n 1, 1) := by decide +kernel
theorem eX0_readCollected_55 : dec cX0_readCollected 55 (.iload_n 1) 1 56 := ⟨dX0_readCollected_55, rfl⟩
theorem dX0_readCollected_56 : decode cX0_readCollected 56 = .ok (.iload_n 3, 1) := by decide +kernel
theorem eX0_readCollected_56 : dec cX0_readCollected 56 (.iload_n 3) 1 57 := ⟨dX0_readCollected_56, rfl⟩
theorem dX0_readCollected_57 : decode cX0_readCollected 57 = .ok (.iadd, 1) := by decide +kernel
theorem eX0_readCollected_57 : dec cX0_readCollected 57 .iadd 1 58 := ⟨dX0_readCollected_57, rfl⟩
theorem dX0_readCollected_58 : decode cX0_readCollected 58 = .ok (.istore 4, 2) := by decide +kernel
theorem eX0_readCollected_58 : dec cX0_readCollected 58 (.istore 4) 2 60 := ⟨dX0_readCollected_58, rfl⟩
theorem dX0_readCollected_60 : decode cX0_readCollected 60 = .ok (.iload_n 1, 1) := by decide +kernel
theorem eX0_readCollected_60 : dec cX0_readCollected 60 (.iload_n 1) 1 61 := ⟨dX0_readCollected_60, rfl⟩
theorem dX0_readCollected_61 : decode cX0_readCollected 61 = .ok (.istore 5, 2) := by decide +kernel
theorem eX0_readCollected_61 : dec cX0_readCollected 61 (.istore 5) 2 63 := ⟨dX0_readCollected_61, rfl⟩
theorem dX0_readCollected_63 : decode cX0_readCollected 63 = .ok (.iload 5, 2) := by decide +kernel
theorem eX0_readCollected_63 : dec cX0_readCollected 63 (.iload 5) 2 65 := ⟨dX0_readCollected_63, rfl⟩
theorem dX0_readCollected_65 : decode cX0_readCollected 65 = .ok (.iload 4, 2) := by decide +kernel
theorem eX0_readCollected_65 : dec cX0_readCollected 65 (.iload 4) 2 67 := ⟨dX0_readCollected_65, rfl⟩
theorem dX0_readCollected_67 : decode cX0_readCollected 67 = .ok (.if_icmp .ge 24, 3) := by decide +kernel
theorem eX0_readCollected_67 : dec cX0_readCollected 67 (.if_icmp .ge 24) 3 70 := ⟨dX0_readCollected_67, rfl⟩
theorem dX0_readCollected_70 : decode cX0_readCollected 70 = .ok (.aload_n 0, 1) := by decide +kernel
theorem eX0_readCollected_70 : dec cX0_readCollected 70 (.aload_n 0) 1 71 := ⟨dX0_readCollected_70, rfl⟩
theorem dX0_readCollected_71 : decode cX0_readCollected 71 = .ok (.getfield 29, 3) := by decide +kernel
theorem eX0_readCollected_71 : dec cX0_readCollected 71 (.getfield 29) 3 74 := ⟨dX0_readCollected_71, rfl⟩
theorem dX0_readCollected_74 : decode cX0_readCollected 74 = .ok (.iload 5, 2) := by decide +kernel
theorem eX0_readCollected_74 : dec cX0_readCollected 74 (.iload 5) 2 76 := ⟨dX0_readCollected_74, rfl⟩
theorem dX0_readCollected_76 : decode cX0_readCollected 76 = .ok (.aload_n 0, 1) := by decide +kernel
theorem eX0_readCollected_76 : dec cX0_readCollected 76 (.aload_n 0) 1 77 := ⟨dX0_readCollected_76, rfl⟩
theorem dX0_readCollected_77 : decode cX0_readCollected 77 = .ok (.getfield 55, 3) := by decide +kernel
theorem eX0_readCollected_77 : dec cX0_readCollected 77 (.getfield 55) 3 80 := ⟨dX0_readCollected_77, rfl⟩
theorem dX0_readCollected_80 : decode cX0_readCollected 80 = .ok (.iload_n 2, 1) := by decide +kernel
theorem eX0_readCollected_80 : dec cX0_readCollected 80 (.iload_n 2) 1 81 := ⟨dX0_readCollected_80, rfl⟩
theorem dX0_readCollected_81 : decode cX0_readCollected 81 = .ok (.iconst 1, 1) := by decide +kernel
theorem eX0_readCollected_81 : dec cX0_readCollected 81 (.iconst 1) 1 82 := ⟨dX0_readCollected_81, rfl⟩
theorem dX0_readCollected_82 : decode cX0_readCollected 82 = .ok (.iadd, 1) := by decide +kernel
theorem eX0_readCollected_82 : dec cX0_readCollected 82 .iadd 1 83 := ⟨dX0_readCollected_82, rfl⟩
theorem dX0_readCollected_83 : decode cX0_readCollected 83 = .ok (.baload, 1) := by decide +kernel
theorem eX0_readCollected_83 : dec cX0_readCollected 83 .baload 1 84 := ⟨dX0_readCollected_83, rfl⟩
theorem dX0_readCollected_84 : decode cX0_readCollected 84 = .ok (.bastore, 1) := by decide +kernel
theorem eX0_readCollected_84 : dec cX0_readCollected 84 .bastore 1 85 := ⟨dX0_readCollected_84, rfl⟩
theorem dX0_readCollected_85 : decode cX0_readCollected 85 = .ok (.iinc 5 1, 3) := by decide +kernel
theorem eX0_readCollected_85 : dec cX0_readCollected 85 (.iinc 5 1) 3 88 := ⟨dX0_readCollected_85, rfl⟩
theorem dX0_readCollected_88 : decode cX0_readCollected 88 = .ok (.goto (-25), 3) := by decide +kernel
theorem eX0_readCollected_88 : dec cX0_readCollected 88 (.goto (-25)) 3 91 := ⟨dX0_readCollected_88, rfl⟩
theorem dX0_readCollected_91 : decode cX0_readCollected 91 = .ok (.iload 4, 2) := by decide +kernel
theorem eX0_readCollected_91 : dec cX0_readCollected 91 (.iload 4) 2 93 := ⟨dX0_readCollected_91, rfl⟩
theorem dX0_readCollected_93 : decode cX0_readCollected 93 = .ok (.istore_n 1, 1) := by decide +kernel
theorem eX0_readCollected_93 : dec cX0_readCollected 93 (.istore_n 1) 1 94 := ⟨dX0_readCollected_93, rfl⟩
theorem dX0_readCollected_94 : decode cX0_readCollected 94 = .ok (.iinc 2 2, 3) := by decide +kernel
theorem eX0_readCollected_94 : dec cX0_readCollected 94 (.iinc 2 2) 3 97 := ⟨dX0_readCollected_94, rfl⟩
theorem dX0_readCollected_97 : decode cX0_readCollected 97 = .ok (.goto (-93), 3) := by decide +kernel
theorem eX0_readCollected_97 : dec cX0_readCollected 97 (.goto (-93)) 3 100 := ⟨dX0_readCollected_97, rfl⟩
theorem dX0_readCollected_100 : decode cX0_readCollected 100 = .ok (.iload_n 1, 1) := by decide +kernel
theorem eX0_readCollected_100 : dec cX0_readCollected 100 (.iload_n 1) 1 101 := ⟨dX0_readCollected_100, rfl⟩
theorem dX0_readCollected_101 : decode cX0_readCollected 101 = .ok (.aload_n 0, 1) := by decide +kernel
theorem eX0_readCollected_101 : dec cX0_readCollected 101 (.aload_n 0) 1 102 := ⟨dX0_readCollected_101, rfl⟩
theorem dX0_readCollected_102 : decode cX0_readCollected 102 = .ok (.getfield 29, 3) := by decide +kernel
theorem eX0_readCollected_102 : dec cX0_readCollected 102 (.getfield 29) 3 105 := ⟨dX0_readCollected_102, rfl⟩
theorem dX0_readCollected_105 : decode cX0_readCollected 105 = .ok (.arraylength, 1) := by decide +kernel
theorem eX0_readCollected_105 : dec cX0_readCollected 105 .arraylength 1 106 := ⟨dX0_readCollected_105, rfl⟩
theorem dX0_readCollected_106 : decode cX0_readCollected 106 = .ok (.if_icmp .ge 10, 3) := by decide +kernel
theorem eX0_readCollected_106 : dec cX0_readCollected 106 (.if_icmp .ge 10) 3 109 := ⟨dX0_readCollected_106, rfl⟩
theorem dX0_readCollected_109 : decode cX0_readCollected 109 = .ok (.aload_n 0, 1) := by decide +kernel
theorem eX0_readCollected_109 : dec cX0_readCollected 109 (.aload_n 0) 1 110 := ⟨dX0_readCollected_109, rfl⟩
theorem dX0_readCollected_110 : decode cX0_readCollected 110 = .ok (.getfield 117, 3) := by decide +kernel
theorem eX0_readCollected_110 : dec cX0_readCollected 110 (.getfield 117) 3 113 := ⟨dX0_readCollected_110, rfl⟩
theorem dX0_readCollected_113 : decode cX0_readCollected 113 = .ok (.goto 4, 3) := by decide +kernel
theorem eX0_readCollected_113 : dec cX0_readCollected 113 (.goto 4) 3 116 := ⟨dX0_readCollected_113, rfl⟩
theorem dX0_readCollected_116 : decode cX0_readCollected 116 = .ok (.iconst (-1), 1) := by decide +kernel
theorem eX0_readCollected_116 : dec cX0_readCollected 116 (.iconst (-1)) 1 117 := ⟨dX0_readCollected_116, rfl⟩
theorem dX0_readCollected_117 : decode cX0_readCollected 117 = .ok (.ireturn, 1) := by decide +kernel
theorem eX0_readCollected_117 : dec cX0_readCollected 117 .ireturn 1 118 := ⟨dX0_readCollected_117, rfl⟩
theorem dX0_mirrorRows_0 : decode cX0_mirrorRows 0 = .ok (.iconst 0, 1) := by decide +kernel
theorem eX0_mirrorRows_0 : dec cX0_mirrorRows 0 (.iconst 0) 1 1 := ⟨dX0_mirrorRows_0, rfl⟩
theorem dX0_mirrorRows_1 : decode cX0_mirrorRows 1 = .ok (.istore_n 1, 1) := by decide +kernel
theorem eX0_mirrorRows_1 : dec cX0_mirrorRows 1 (.istore_n 1) 1 2 := ⟨dX0_mirrorRows_1, rfl⟩
theorem dX0_mirrorRows_2 : decode cX0_mirrorRows 2 = .ok (.iload_n 1, 1) := by decide +kernel
theorem eX0_mirrorRows_2 : dec cX0_mirrorRows 2 (.iload_n 1) 1 3 := ⟨dX0_mirrorRows_2, rfl⟩
theorem dX0_mirrorRows_3 : decode cX0_mirrorRows 3 = .ok (.aload_n 0, 1) := by decide +kernel
theorem eX0_mirrorRows_3 : dec cX0_mirrorRows 3 (.aload_n 0) 1 4 := ⟨dX0_mirrorRows_3, rfl⟩
theorem dX0_mirrorRows_4 : decode cX0_mirrorRows 4 = .ok (.getfield 22, 3) := by decide +kernel
theorem eX0_mirrorRows_4 : dec cX0_mirrorRows 4 (.getfield 22) 3 7 := ⟨dX0_mirrorRows_4, rfl⟩
theorem dX0_mirrorRows_7 : decode cX0_mirrorRows 7 = .ok (.if_icmp .ge 58, 3) := by decide +kernel
theorem eX0_mirrorRows_7 : dec cX0_mirrorRows 7 (.if_icmp .ge 58) 3 10 := ⟨dX0_mirrorRows_7, rfl⟩
theorem dX0_mirrorRows_10 : decode cX0_mirrorRows 10 = .ok (.iconst 0, 1) := by decide +kernel
theorem eX0_mirrorRows_10 : dec cX0_mirrorRows 10 (.iconst 0) 1 11 := ⟨dX0_mirrorRows_10, rfl⟩
theorem dX0_mirrorRows_11 : decode cX0_mirrorRows 11 = .ok (.istore_n 2, 1) := by decide +kernel
theorem eX0_mirrorRows_11 : dec cX0_mirrorRows 11 (.istore_n 2) 1 12 := ⟨dX0_mirrorRows_11, rfl⟩
theorem dX0_mirrorRows_12 : decode cX0_mirrorRows 12 = .ok (.iload_n 2, 1) := by decide +kernel
theorem eX0_mirrorRows_12 : dec cX0_mirrorRows 12 (.iload_n 2) 1 13 := ⟨dX0_mirrorRows_12, rfl⟩
theorem dX0_mirrorRows_13 : decode cX0_mirrorRows 13 = .ok (.aload_n 0, 1) := by decide +kernel
theorem eX0_mirrorRows_13 : dec cX0_mirrorRows 13 (.aload_n 0) 1 14 := ⟨dX0_mirrorRows_13, rfl⟩
theorem dX0_mirrorRows_14 : decode cX0_mirrorRows 14 = .ok (.getfield 18, 3) := by decide +kernel
theorem eX0_mirrorRows_14 : dec cX0_mirrorRows 14 (.getfield 18) 3 17 := ⟨dX0_mirrorRows_14, rfl⟩
theorem dX0_mirrorRows_17 : decode cX0_mirrorRows 17 = .ok (.if_icmp .ge 42, 3) := by decide +kernel
theorem eX0_mirrorRows_17 : dec cX0_mirrorRows 17 (.if_icmp .ge 42) 3 20 := ⟨dX0_mirrorRows_17, rfl⟩
theorem dX0_mirrorRows_20 : decode cX0_mirrorRows 20 = .ok (.aload_n 0, 1) := by decide +kernel
theorem eX0_mirrorRows_20 : dec cX0_mirrorRows 20 (.aload_n 0) 1 21 := ⟨dX0_mirrorRows_20, rfl⟩
theorem dX0_mirrorRows_21 : decode cX0_mirrorRows 21 = .ok (.getfield 29, 3) := by decide +kernel
theorem eX0_mirrorRows_21 : dec cX0_mirrorRows 21 (.getfield 29) 3 24 := ⟨dX0_mirrorRows_21, rfl⟩
theorem dX0_mirrorRows_24 : decode cX0_mirrorRows 24 = .ok (.iload_n 1, 1) := by decide +kernel
theorem eX0_mirrorRows_24 : dec cX0_mirrorRows 24 (.iload_n 1) 1 25 := ⟨dX0_mirrorRows_24, rfl⟩
theorem dX0_mirrorRows_25 : decode cX0_mirrorRows 25 = .ok (.aload_n 0, 1) := by decide +kernel
theorem eX0_mirrorRows_25 : dec cX0_mirrorRows 25 (.aload_n 0) 1 26 := ⟨dX0_mirrorRows_25, rfl⟩
theorem dX0_mirrorRows_26 : decode cX0_mirrorRows 26 = .ok (.getfield 18, 3) := by decide +kernel
theorem eX0_mirrorRows_26 : dec cX0_mirrorRows 26 (.getfield 18) 3 29 := ⟨dX0_mirrorRows_26, rfl⟩
theorem dX0_mirrorRows_29 : decode cX0_mirrorRows 29 = .ok (.imul, 1) := by decide +kernel
theorem eX0_mirrorRows_29 : dec cX0_mirrorRows 29 .imul 1 30 := ⟨dX0_mirrorRows_29, rfl⟩
theorem dX0_mirrorRows_30 : decode cX0_mirrorRows 30 = .ok (.iload_n 2, 1) := by decide +kernel
theorem eX0_mirrorRows_30 : dec cX0_mirrorRows 30 (.iload_n 2) 1 31 := ⟨dX0_mirrorRows_30, rfl⟩
theorem dX0_mirrorRows_31 : decode cX0_mirrorRows 31 = .ok (.iadd, 1) := by decide +kernel
theorem eX0_mirrorRows_31 : dec cX0_mirrorRows 31 .iadd 1 32 := ⟨dX0_mirrorRows_31, rfl⟩
theorem dX0_mirrorRows_32 : decode cX0_mirrorRows 32 = .ok (.aload_n 0, 1) := by decide +kernel
theorem eX0_mirrorRows_32 : dec cX0_mirrorRows 32 (.aload_n 0) 1 33 := ⟨dX0_mirrorRows_32, rfl⟩
theorem dX0_mirrorRows_33 : decode cX0_mirrorRows 33 = .ok (.getfield 25, 3) := by decide +kernel
theorem eX0_mirrorRows_33 : dec cX0_mirrorRows 33 (.getfield 25) 3 36 := ⟨dX0_mirrorRows_33, rfl⟩
theorem dX0_mirrorRows_36 : decode cX0_mirrorRows 36 = .ok (.iload_n 1, 1) := by decide +kernel
theorem eX0_mirrorRows_36 : dec cX0_mirrorRows 36 (.iload_n 1) 1 37 := ⟨dX0_mirrorRows_36, rfl⟩
theorem dX0_mirrorRows_37 : decode cX0_mirrorRows 37 = .ok (.aload_n 0, 1) := by decide +kernel
theorem eX0_mirrorRows_37 : dec cX0_mirrorRows 37 (.aload_n 0) 1 38 := ⟨dX0_mirrorRows_37, rfl⟩
theorem dX0_mirrorRows_38 : decode cX0_mirrorRows 38 = .ok (.getfield 18, 3) := by decide +kernel
theorem eX0_mirrorRows_38 : dec cX0_mirrorRows 38 (.getfield 18) 3 41 := ⟨dX0_mirrorRows_38, rfl⟩
theorem dX0_mirrorRows_41 : decode cX0_mirrorRows 41 = .ok (.imul, 1) := by decide +kernel
theorem eX0_mirrorRows_41 : dec cX0_mirrorRows 41 .imul 1 42 := ⟨dX0_mirrorRows_41, rfl⟩
theorem dX0_mirrorRows_42 : decode cX0_mirrorRows 42 = .ok (.aload_n 0, 1) := by decide +kernel
theorem eX0_mirrorRows_42 : dec cX0_mirrorRows 42 (.aload_n 0) 1 43 := ⟨dX0_mirrorRows_42, rfl⟩
theorem dX0_mirrorRows_43 : decode cX0_mirrorRows 43 = .ok (.getfield 18, 3) := by decide +kernel
theorem eX0_mirrorRows_43 : dec cX0_mirrorRows 43 (.getfield 18) 3 46 := ⟨dX0_mirrorRows_43, rfl⟩
theorem dX0_mirrorRows_46 : decode cX0_mirrorRows 46 = .ok (.iadd, 1) := by decide +kernel
theorem eX0_mirrorRows_46 : dec cX0_mirrorRows 46 .iadd 1 47 := ⟨dX0_mirrorRows_46, rfl⟩
theorem dX0_mirrorRows_47 : decode cX0_mirrorRows 47 = .ok (.iconst 1, 1) := by decide +kernel
theorem eX0_mirrorRows_47 : dec cX0_mirrorRows 47 (.iconst 1) 1 48 := ⟨dX0_mirrorRows_47, rfl⟩
theorem dX0_mirrorRows_48 : decode cX0_mirrorRows 48 = .ok (.isub, 1) := by decide +kernel
theorem eX0_mirrorRows_48 : dec cX0_mirrorRows 48 .isub 1 49 := ⟨dX0_mirrorRows_48, rfl⟩
theorem dX0_mirrorRows_49 : decode cX0_mirrorRows 49 = .ok (.iload_n 2, 1) := by decide +kernel
theorem eX0_mirrorRows_49 : dec cX0_mirrorRows 49 (.iload_n 2) 1 50 := ⟨dX0_mirrorRows_49, rfl⟩
theorem dX0_mirrorRows_50 : decode cX0_mirrorRows 50 = .ok (.isub, 1) := by decide +kernel
theorem eX0_mirrorRows_50 : dec cX0_mirrorRows 50 .isub 1 51 := ⟨dX0_mirrorRows_50, rfl⟩
theorem dX0_mirrorRows_51 : decode cX0_mirrorRows 51 = .ok (.baload, 1) := by decide +kernel
theorem eX0_mirrorRows_51 : dec cX0_mirrorRows 51 .baload 1 52 := ⟨dX0_mirrorRows_51, rfl⟩
theorem dX0_mirrorRows_52 : decode cX0_mirrorRows 52 = .ok (.bastore, 1) := by decide +kernel
theorem eX0_mirrorRows_52 : dec cX0_mirrorRows 52 .bastore 1 53 := ⟨dX0_mirrorRows_52, rfl⟩
theorem dX0_mirrorRows_53 : decode cX0_mirrorRows 53 = .ok (.iinc 2 1, 3) := by decide +kernel
theorem eX0_mirrorRows_53 : dec cX0_mirrorRows 53 (.iinc 2 1) 3 56 := ⟨dX0_mirrorRows_53, rfl⟩
theorem dX0_mirrorRows_56 : decode cX0_mirrorRows 56 = .ok (.goto (-44), 3) := by decide +kernel
theorem eX0_mirrorRows_56 : dec cX0_mirrorRows 56 (.goto (-44)) 3 59 := ⟨dX0_mirrorRows_56, rfl⟩
theorem dX0_mirrorRows_59 : decode cX0_mirrorRows 59 = .ok (.iinc 1 1, 3) := by decide +kernel
theorem eX0_mirrorRows_59 : dec cX0_mirrorRows 59 (.iinc 1 1) 3 62 := ⟨dX0_mirrorRows_59, rfl⟩
theorem dX0_mirrorRows_62 : decode cX0_mirrorRows 62 = .ok (.goto (-60), 3) := by decide +kernel
theorem eX0_mirrorRows_62 : dec cX0_mirrorRows 62 (.goto (-60)) 3 65 := ⟨dX0_mirrorRows_62, rfl⟩
theorem dX0_mirrorRows_65 : decode cX0_mirrorRows 65 = .ok (.return_, 1) := by decide +kernel
theorem eX0_mirrorRows_65 : dec cX0_mirrorRows 65 .return_ 1 66 := ⟨dX0_mirrorRows_65, rfl⟩
theorem dX0_reverseRows_0 : decode cX0_reverseRows 0 = .ok (.iconst 0, 1) := by decide +kernel
theorem eX0_reverseRows_0 : dec cX0_reverseRows 0 (.iconst 0) 1 1 := ⟨dX0_reverseRows_0, rfl⟩
theorem dX0_reverseRows_1 : decode cX0_reverseRows 1 = .ok (.istore_n 1, 1) := by decide +kernel
theorem eX0_reverseRows_1 : dec cX0_reverseRows 1 (.istore_n 1) 1 2 := ⟨dX0_reverseRows_1, rfl⟩
theorem dX0_reverseRows_2 : decode cX0_reverseRows 2 = .ok (.iload_n 1, 1) := by decide +kernel
theorem eX0_reverseRows_2 : dec cX0_reverseRows 2 (.iload_n 1) 1 3 := ⟨dX0_reverseRows_2, rfl⟩
theorem dX0_reverseRows_3 : decode cX0_reverseRows 3 = .ok (.aload_n 0, 1) := by decide +kernel
theorem eX0_reverseRows_3 : dec cX0_reverseRows 3 (.aload_n 0) 1 4 := ⟨dX0_reverseRows_3, rfl⟩
theorem dX0_reverseRows_4 : decode cX0_reverseRows 4 = .ok (.getfield 22, 3) := by decide +kernel
theorem eX0_reverseRows_4 : dec cX0_reverseRows 4 (.getfield 22) 3 7 := ⟨dX0_reverseRows_4, rfl⟩
theorem dX0_reverseRows_7 : decode cX0_reverseRows 7 = .ok (.if_icmp .ge 58, 3) := by decide +kernel
theorem eX0_reverseRows_7 : dec cX0_reverseRows 7 (.if_icmp .ge 58) 3 10 := ⟨dX0_reverseRows_7, rfl⟩
theorem dX0_reverseRows_10 : decode cX0_reverseRows 10 = .ok (.iconst 0, 1) := by decide +kernel
theorem eX0_reverseRows_10 : dec cX0_reverseRows 10 (.iconst 0) 1 11 := ⟨dX0_reverseRows_10, rfl⟩
theorem dX0_reverseRows_11 : decode cX0_reverseRows 11 = .ok (.istore_n 2, 1) := by decide +kernel
theorem eX0_reverseRows_11 : dec cX0_reverseRows 11 (.istore_n 2) 1 12 := ⟨dX0_reverseRows_11, rfl⟩
theorem dX0_reverseRows_12 : decode cX0_reverseRows 12 = .ok (.iload_n 2, 1) := by decide +kernel
theorem eX0_reverseRows_12 : dec cX0_reverseRows 12 (.iload_n 2) 1 13 := ⟨dX0_reverseRows_12, rfl⟩
theorem dX0_reverseRows_13 : decode cX0_reverseRows 13 = .ok (.aload_n 0, 1) := by decide +kernel
theorem eX0_reverseRows_13 : dec cX0_reverseRows 13 (.aload_n 0) 1 14 := ⟨dX0_reverseRows_13, rfl⟩
theorem dX0_reverseRows_14 : decode cX0_reverseRows 14 = .ok (.getfield 18, 3) := by decide +kernel
theorem eX0_reverseRows_14 : dec cX0_reverseRows 14 (.getfield 18) 3 17 := ⟨dX0_reverseRows_14, rfl⟩
theorem dX0_reverseRows_17 : decode cX0_reverseRows 17 = .ok (.if_icmp .ge 42, 3) := by decide +kernel
theorem eX0_reverseRows_17 : dec cX0_reverseRows 17 (.if_icmp .ge 42) 3 20 := ⟨dX0_reverseRows_17, rfl⟩
theorem dX0_reverseRows_20 : decode cX0_reverseRows 20 = .ok (.aload_n 0, 1) := by decide +kernel
theorem eX0_reverseRows_20 : dec cX0_reverseRows 20 (.aload_n 0) 1 21 := ⟨dX0_reverseRows_20, rfl⟩
theorem dX0_reverseRows_21 : decode cX0_reverseRows 21 = .ok (.getfield 29, 3) := by decide +kernel
theorem eX0_reverseRows_21 : dec cX0_reverseRows 21 (.getfield 29) 3 24 := ⟨dX0_reverseRows_21, rfl⟩
theorem dX0_reverseRows_24 : decode cX0_reverseRows 24 = .ok (.iload_n 1, 1) := by decide +kernel
theorem eX0_reverseRows_24 : dec cX0_reverseRows 24 (.iload_n 1) 1 25 := ⟨dX0_reverseRows_24, rfl⟩
theorem dX0_reverseRows_25 : decode cX0_reverseRows 25 = .ok (.aload_n 0, 1) := by decide +kernel
theorem eX0_reverseRows_25 : dec cX0_reverseRows 25 (.aload_n 0) 1 26 := ⟨dX0_reverseRows_25, rfl⟩
theorem dX0_reverseRows_26 : decode cX0_reverseRows 26 = .ok (.getfield 18, 3) := by decide +kernel
theorem eX0_reverseRows_26 : dec cX0_reverseRows 26 (.getfield 18) 3 29 := ⟨dX0_reverseRows_26, rfl⟩
theorem dX0_reverseRows_29 : decode cX0_reverseRows 29 = .ok (.imul, 1) := by decide +kernel
theorem eX0_reverseRows_29 : dec cX0_reverseRows 29 .imul 1 30 := ⟨dX0_reverseRows_29, rfl⟩
theorem dX0_reverseRows_30 : decode cX0_reverseRows 30 = .ok (.iload_n 2, 1) := by decide +kernel
theorem eX0_reverseRows_30 : dec cX0_reverseRows 30 (.iload_n 2) 1 31 := ⟨dX0_reverseRows_30, rfl⟩
theorem dX0_reverseRows_31 : decode cX0_reverseRows 31 = .ok (.iadd, 1) := by decide +kernel
theorem eX0_reverseRows_31 : dec cX0_reverseRows 31 .iadd 1 32 := ⟨dX0_reverseRows_31, rfl⟩
theorem dX0_reverseRows_32 : decode cX0_reverseRows 32 = .ok (.aload_n 0, 1) := by decide +kernel
theorem eX0_reverseRows_32 : dec cX0_reverseRows 32 (.aload_n 0) 1 33 := ⟨dX0_reverseRows_32, rfl⟩
theorem dX0_reverseRows_33 : decode cX0_reverseRows 33 = .ok (.getfield 25, 3) := by decide +kernel
theorem eX0_reverseRows_33 : dec cX0_reverseRows 33 (.getfield 25) 3 36 := ⟨dX0_reverseRows_33, rfl⟩
theorem dX0_reverseRows_36 : decode cX0_reverseRows 36 = .ok (.aload_n 0, 1) := by decide +kernel
theorem eX0_reverseRows_36 : dec cX0_reverseRows 36 (.aload_n 0) 1 37 := ⟨dX0_reverseRows_36, rfl⟩
theorem dX0_reverseRows_37 : decode cX0_reverseRows 37 = .ok (.getfield 22, 3) := by decide +kernel
theorem eX0_reverseRows_37 : dec cX0_reverseRows 37 (.getfield 22) 3 40 := ⟨dX0_reverseRows_37, rfl⟩
theorem dX0_reverseRows_40 : decode cX0_reverseRows 40 = .ok (.iconst 1, 1) := by decide +kernel
theorem eX0_reverseRows_40 : dec cX0_reverseRows 40 (.iconst 1) 1 41 := ⟨dX0_reverseRows_40, rfl⟩
theorem dX0_reverseRows_41 : decode cX0_reverseRows 41 = .ok (.isub, 1) := by decide +kernel
theorem eX0_reverseRows_41 : dec cX0_reverseRows 41 .isub 1 42 := ⟨dX0_reverseRows_41, rfl⟩
theorem dX0_reverseRows_42 : decode cX0_reverseRows 42 = .ok (.iload_n 1, 1) := by decide +kernel
theorem eX0_reverseRows_42 : dec cX0_reverseRows 42 (.iload_n 1) 1 43 := ⟨dX0_reverseRows_42, rfl⟩
theorem dX0_reverseRows_43 : decode cX0_reverseRows 43 = .ok (.isub, 1) := by decide +kernel
theorem eX0_reverseRows_43 : dec cX0_reverseRows 43 .isub 1 44 := ⟨dX0_reverseRows_43, rfl⟩
theorem dX0_reverseRows_44 : decode cX0_reverseRows 44 = .ok (.aload_n 0, 1) := by decide +kernel
theorem eX0_reverseRows_44 : dec cX0_reverseRows 44 (.aload_n 0) 1 45 := ⟨dX0_reverseRows_44, rfl⟩
theorem dX0_reverseRows_45 : decode cX0_reverseRows 45 = .ok (.getfield 18, 3) := by decide +kernel
theorem eX0_reverseRows_45 : dec cX0_reverseRows 45 (.getfield 18) 3 48 := ⟨dX0_reverseRows_45, rfl⟩
theorem dX0_reverseRows_48 : decode cX0_reverseRows 48 = .ok (.imul, 1) := by decide +kernel
theorem eX0_reverseRows_48 : dec cX0_reverseRows 48 .imul 1 49 := ⟨dX0_reverseRows_48, rfl⟩
theorem dX0_reverseRows_49 : decode cX0_reverseRows 49 = .ok (.iload_n 2, 1) := by decide +kernel
theorem eX0_reverseRows_49 : dec cX0_reverseRows 49 (.iload_n 2) 1 50 := ⟨dX0_reverseRows_49, rfl⟩
theorem dX0_reverseRows_50 : decode cX0_reverseRows 50 = .ok (.iadd, 1) := by decide +kernel
theorem eX0_reverseRows_50 : dec cX0_reverseRows 50 .iadd 1 51 := ⟨dX0_reverseRows_50, rfl⟩
theorem dX0_reverseRows_51 : decode cX0_reverseRows 51 = .ok (.baload, 1) := by decide +kernel
theorem eX0_reverseRows_51 : dec cX0_reverseRows 51 .baload 1 52 := ⟨dX0_reverseRows_51, rfl⟩
theorem dX0_reverseRows_52 : decode cX0_reverseRows 52 = .ok (.bastore, 1) := by decide +kernel
theorem eX0_reverseRows_52 : dec cX0_reverseRows 52 .bastore 1 53 := ⟨dX0_reverseRows_52, rfl⟩
theorem dX0_reverseRows_53 : decode cX0_reverseRows 53 = .ok (.iinc 2 1, 3) := by decide +kernel
theorem eX0_reverseRows_53 : dec cX0_reverseRows 53 (.iinc 2 1) 3 56 := ⟨dX0_reverseRows_53, rfl⟩
theorem dX0_reverseRows_56 : decode cX0_reverseRows 56 = .ok (.goto (-44), 3) := by decide +kernel
theorem eX0_reverseRows_56 : dec cX0_reverseRows 56 (.goto (-44)) 3 59 := ⟨dX0_reverseRows_56, rfl⟩
theorem dX0_reverseRows_59 : decode cX0_reverseRows 59 = .ok (.iinc 1 1, 3) := by decide +kernel
theorem eX0_reverseRows_59 : dec cX0_reverseRows 59 (.iinc 1 1) 3 62 := ⟨dX0_reverseRows_59, rfl⟩
theorem dX0_reverseRows_62 : decode cX0_reverseRows 62 = .ok (.goto (-60), 3) := by decide +kernel
theorem eX0_reverseRows_62 : dec cX0_reverseRows 62 (.goto (-60)) 3 65 := ⟨dX0_reverseRows_62, rfl⟩
theorem dX0_reverseRows_65 : decode cX0_reverseRows 65 = .ok (.return_, 1) := by decide +kernel
theorem eX0_reverseRows_65 : dec cX0_reverseRows 65 .return_ 1 66 := ⟨dX0_reverseRows_65, rfl⟩
theorem dX0_invertGreys_0 : decode cX0_invertGreys 0 = .ok (.iconst 0, 1) := by decide +kernel
theorem eX0_invertGreys_0 : dec cX0_invertGreys 0 (.iconst 0) 1 1 := ⟨dX0_invertGreys_0, rfl⟩
theorem dX0_invertGreys_1 : decode cX0_invertGreys 1 = .ok (.istore_n 1, 1) := by decide +kernel
theorem eX0_invertGreys_1 : dec cX0_invertGreys 1 (.istore_n 1) 1 2 := ⟨dX0_invertGreys_1, rfl⟩
theorem dX0_invertGreys_2 : decode cX0_invertGreys 2 = .ok (.iload_n 1, 1) := by decide +kernel
theorem eX0_invertGreys_2 : dec cX0_invertGreys 2 (.iload_n 1) 1 3 := ⟨dX0_invertGreys_2, rfl⟩
theorem dX0_invertGreys_3 : decode cX0_invertGreys 3 = .ok (.aload_n 0, 1) := by decide +kernel
theorem eX0_invertGreys_3 : dec cX0_invertGreys 3 (.aload_n 0) 1 4 := ⟨dX0_invertGreys_3, rfl⟩
theorem dX0_invertGreys_4 : decode cX0_invertGreys 4 = .ok (.getfield 25, 3) := by decide +kernel
theorem eX0_invertGreys_4 : dec cX0_invertGreys 4 (.getfield 25) 3 7 := ⟨dX0_invertGreys_4, rfl⟩
theorem dX0_invertGreys_7 : decode cX0_invertGreys 7 = .ok (.arraylength, 1) := by decide +kernel
theorem eX0_invertGreys_7 : dec cX0_invertGreys 7 .arraylength 1 8 := ⟨dX0_invertGreys_7, rfl⟩
theorem dX0_invertGreys_8 : decode cX0_invertGreys 8 = .ok (.if_icmp .ge 30, 3) := by decide +kernel
theorem eX0_invertGreys_8 : dec cX0_invertGreys 8 (.if_icmp .ge 30) 3 11 := ⟨dX0_invertGreys_8, rfl⟩
theorem dX0_invertGreys_11 : decode cX0_invertGreys 11 = .ok (.aload_n 0, 1) := by decide +kernel
theorem eX0_invertGreys_11 : dec cX0_invertGreys 11 (.aload_n 0) 1 12 := ⟨dX0_invertGreys_11, rfl⟩
theorem dX0_invertGreys_12 : decode cX0_invertGreys 12 = .ok (.getfield 29, 3) := by decide +kernel
theorem eX0_invertGreys_12 : dec cX0_invertGreys 12 (.getfield 29) 3 15 := ⟨dX0_invertGreys_12, rfl⟩
theorem dX0_invertGreys_15 : decode cX0_invertGreys 15 = .ok (.iload_n 1, 1) := by decide +kernel
theorem eX0_invertGreys_15 : dec cX0_invertGreys 15 (.iload_n 1) 1 16 := ⟨dX0_invertGreys_15, rfl⟩
theorem dX0_invertGreys_16 : decode cX0_invertGreys 16 = .ok (.sipush 255, 3) := by decide +kernel
theorem eX0_invertGreys_16 : dec cX0_invertGreys 16 (.sipush 255) 3 19 := ⟨dX0_invertGreys_16, rfl⟩
theorem dX0_invertGreys_19 : decode cX0_invertGreys 19 = .ok (.aload_n 0, 1) := by decide +kernel
theorem eX0_invertGreys_19 : dec cX0_invertGreys 19 (.aload_n 0) 1 20 := ⟨dX0_invertGreys_19, rfl⟩
theorem dX0_invertGreys_20 : decode cX0_invertGreys 20 = .ok (.getfield 25, 3) := by decide +kernel
theorem eX0_invertGreys_20 : dec cX0_invertGreys 20 (.getfield 25) 3 23 := ⟨dX0_invertGreys_20, rfl⟩
theorem dX0_invertGreys_23 : decode cX0_invertGreys 23 = .ok (.iload_n 1, 1) := by decide +kernel
theorem eX0_invertGreys_23 : dec cX0_invertGreys 23 (.iload_n 1) 1 24 := ⟨dX0_invertGreys_23, rfl⟩
theorem dX0_invertGreys_24 : decode cX0_invertGreys 24 = .ok (.baload, 1) := by decide +kernel
theorem eX0_invertGreys_24 : dec cX0_invertGreys 24 .baload 1 25 := ⟨dX0_invertGreys_24, rfl⟩
theorem dX0_invertGreys_25 : decode cX0_invertGreys 25 = .ok (.sipush 255, 3) := by decide +kernel
theorem eX0_invertGreys_25 : dec cX0_invertGreys 25 (.sipush 255) 3 28 := ⟨dX0_invertGreys_25, rfl⟩
theorem dX0_invertGreys_28 : decode cX0_invertGreys 28 = .ok (.iand, 1) := by decide +kernel
theorem eX0_invertGreys_28 : dec cX0_invertGreys 28 .iand 1 29 := ⟨dX0_invertGreys_28, rfl⟩
theorem dX0_invertGreys_29 : decode cX0_invertGreys 29 = .ok (.isub, 1) := by decide +kernel
theorem eX0_invertGreys_29 : dec cX0_invertGreys 29 .isub 1 30 := ⟨dX0_invertGreys_29, rfl⟩
theorem dX0_invertGreys_30 : decode cX0_invertGreys 30 = .ok (.i2b, 1) := by decide +kernel
theorem eX0_invertGreys_30 : dec cX0_invertGreys 30 .i2b 1 31 := ⟨dX0_invertGreys_30, rfl⟩
theorem dX0_invertGreys_31 : decode cX0_invertGreys 31 = .ok (.bastore, 1) := by decide +kernel
theorem eX0_invertGreys_31 : dec cX0_invertGreys 31 .bastore 1 32 := ⟨dX0_invertGreys_31, rfl⟩
theorem dX0_invertGreys_32 : decode cX0_invertGreys 32 = .ok (.iinc 1 1, 3) := by decide +kernel
theorem eX0_invertGreys_32 : dec cX0_invertGreys 32 (.iinc 1 1) 3 35 := ⟨dX0_invertGreys_32, rfl⟩
theorem dX0_invertGreys_35 : decode cX0_invertGreys 35 = .ok (.goto (-33), 3) := by decide +kernel
theorem eX0_invertGreys_35 : dec cX0_invertGreys 35 (.goto (-33)) 3 38 := ⟨dX0_invertGreys_35, rfl⟩
theorem dX0_invertGreys_38 : decode cX0_invertGreys 38 = .ok (.return_, 1) := by decide +kernel
theorem eX0_invertGreys_38 : dec cX0_invertGreys 38 .return_ 1 39 := ⟨dX0_invertGreys_38, rfl⟩
set_option maxRecDepth 20000 in
theorem ggX0_halve_J7_fill_031fb : GoodIn wsX0_halve wsJ7_fill_031fb := goodIn_r _ [7] (by decide +kernel) (by decide +kernel)
set_option maxRecDepth 20000 in
theorem gX0_halve_J7_fill_031fb : GoodIn wsX0_halve (va_wsS RX0 58 yJ7_fill_031fb wsJ7_fill_031fb) := goodIn_app (goodIn_of _ (by decide +kernel)) ggX0_halve_J7_fill_031fb
set_option maxRecDepth 20000 in
theorem ggX0_halve_X0_meanOfFour : GoodIn wsX0_halve wsX0_meanOfFour := goodIn_r _ [12, 13, 3, 14, 15, 16, 17, 18, 19, 20, 21, 22, 23, 24, 25, 26, 27, 28, 29] (by decide +kernel) (by decide +kernel)
set_option maxRecDepth 20000 in
theorem gX0_halve_X0_meanOfFour : GoodIn wsX0_halve (wsV RX0 161 RX0 yX0_meanOfFour wsX0_meanOfFour) := goodIn_app (goodIn_of _ (by decide +kernel)) ggX0_halve_X0_meanOfFour
theorem dX0_halve_0 : decode cX0_halve 0 = .ok (.aload_n 0, 1) := by decide +kernel
theorem eX0_halve_0 : dec cX0_halve 0 (.aload_n 0) 1 1 := ⟨dX0_halve_0, rfl⟩
theorem dX0_halve_1 : decode cX0_halve 1 = .ok (.getfield 29, 3) := by decide +kernel
theorem eX0_halve_1 : dec cX0_halve 1 (.getfield 29) 3 4 := ⟨dX0_halve_1, rfl⟩
theorem dX0_halve_4 : decode cX0_halve 4 = .ok (.iconst (-1), 1) := by decide +kernel
theorem eX0_halve_4 : dec cX0_halve 4 (.iconst (-1)) 1 5 := ⟨dX0_halve_4, rfl⟩
theorem dX0_halve_5 : decode cX0_halve 5 = .ok (.invokestatic 58, 3) := by decide +kernel
theorem eX0_halve_5 : dec cX0_halve 5 (.invokestatic 58) 3 8 := ⟨dX0_halve_5, rfl⟩
theorem dX0_halve_8 : decode cX0_halve 8 = .ok (.iconst 0, 1) := by decide +kernel
theorem eX0_halve_8 : dec cX0_halve 8 (.iconst 0) 1 9 := ⟨dX0_halve_8, rfl⟩
theorem dX0_halve_9 : decode cX0_halve 9 = .ok (.istore_n 1, 1) := by decide +kernel
theorem eX0_halve_9 : dec cX0_halve 9 (.istore_n 1) 1 10 := ⟨dX0_halve_9, rfl⟩
theorem dX0_halve_10 : decode cX0_halve 10 = .ok (.iload_n 1, 1) := by decide +kernel
theorem eX0_halve_10 : dec cX0_halve 10 (.iload_n 1) 1 11 := ⟨dX0_halve_10, rfl⟩
theorem dX0_halve_11 : decode cX0_halve 11 = .ok (.aload_n 0, 1) := by decide +kernel
theorem eX0_halve_11 : dec cX0_halve 11 (.aload_n 0) 1 12 := ⟨dX0_halve_11, rfl⟩
theorem dX0_halve_12 : decode cX0_halve 12 = .ok (.getfield 22, 3) := by decide +kernel
theorem eX0_halve_12 : dec cX0_halve 12 (.getfield 22) 3 15 := ⟨dX0_halve_12, rfl⟩
theorem dX0_halve_15 : decode cX0_halve 15 = .ok (.iconst 2, 1) := by decide +kernel
theorem eX0_halve_15 : dec cX0_halve 15 (.iconst 2) 1 16 := ⟨dX0_halve_15, rfl⟩
theorem dX0_halve_16 : decode cX0_halve 16 = .ok (.idiv, 1) := by decide +kernel
theorem eX0_halve_16 : dec cX0_halve 16 .idiv 1 17 := ⟨dX0_halve_16, rfl⟩
theorem dX0_halve_17 : decode cX0_halve 17 = .ok (.if_icmp .ge 56, 3) := by decide +kernel
theorem eX0_halve_17 : dec cX0_halve 17 (.if_icmp .ge 56) 3 20 := ⟨dX0_halve_17, rfl⟩
theorem dX0_halve_20 : decode cX0_halve 20 = .ok (.iconst 0, 1) := by decide +kernel
theorem eX0_halve_20 : dec cX0_halve 20 (.iconst 0) 1 21 := ⟨dX0_halve_20, rfl⟩
theorem dX0_halve_21 : decode cX0_halve 21 = .ok (.istore_n 2, 1) := by decide +kernel
theorem eX0_halve_21 : dec cX0_halve 21 (.istore_n 2) 1 22 := ⟨dX0_halve_21, rfl⟩
theorem dX0_halve_22 : decode cX0_halve 22 = .ok (.iload_n 2, 1) := by decide +kernel
theorem eX0_halve_22 : dec cX0_halve 22 (.iload_n 2) 1 23 := ⟨dX0_halve_22, rfl⟩
theorem dX0_halve_23 : decode cX0_halve 23 = .ok (.aload_n 0, 1) := by decide +kernel
theorem eX0_halve_23 : dec cX0_halve 23 (.aload_n 0) 1 24 := ⟨dX0_halve_23, rfl⟩
theorem dX0_halve_24 : decode cX0_halve 24 = .ok (.getfield 18, 3) := by decide +kernel
theorem eX0_halve_24 : dec cX0_halve 24 (.getfield 18) 3 27 := ⟨dX0_halve_24, rfl⟩
theorem dX0_halve_27 : decode cX0_halve 27 = .ok (.iconst 2, 1) := by decide +kernel
theorem eX0_halve_27 : dec cX0_halve 27 (.iconst 2) 1 28 := ⟨dX0_halve_27, rfl⟩
theorem dX0_halve_28 : decode cX0_halve 28 = .ok (.idiv, 1) := by decide +kernel
theorem eX0_halve_28 : dec cX0_halve 28 .idiv 1 29 := ⟨dX0_halve_28, rfl⟩
theorem dX0_halve_29 : decode cX0_halve 29 = .ok (.if_icmp .ge 38, 3) := by decide +kernel
theorem eX0_halve_29 : dec cX0_halve 29 (.if_icmp .ge 38) 3 32 := ⟨dX0_halve_29, rfl⟩
theorem dX0_halve_32 : decode cX0_halve 32 = .ok (.aload_n 0, 1) := by decide +kernel
theorem eX0_halve_32 : dec cX0_halve 32 (.aload_n 0) 1 33 := ⟨dX0_halve_32, rfl⟩
theorem dX0_halve_33 : decode cX0_halve 33 = .ok (.getfield 29, 3) := by decide +kernel
theorem eX0_halve_33 : dec cX0_halve 33 (.getfield 29) 3 36 := ⟨dX0_halve_33, rfl⟩
theorem dX0_halve_36 : decode cX0_halve 36 = .ok (.iload_n 1, 1) := by decide +kernel
theorem eX0_halve_36 : dec cX0_halve 36 (.iload_n 1) 1 37 := ⟨dX0_halve_36, rfl⟩
theorem dX0_halve_37 : decode cX0_halve 37 = .ok (.aload_n 0, 1) := by decide +kernel
theorem eX0_halve_37 : dec cX0_halve 37 (.aload_n 0) 1 38 := ⟨dX0_halve_37, rfl⟩
theorem dX0_halve_38 : decode cX0_halve 38 = .ok (.getfield 18, 3) := by decide +kernel
theorem eX0_halve_38 : dec cX0_halve 38 (.getfield 18) 3 41 := ⟨dX0_halve_38, rfl⟩
theorem dX0_halve_41 : decode cX0_halve 41 = .ok (.imul, 1) := by decide +kernel
theorem eX0_halve_41 : dec cX0_halve 41 .imul 1 42 := ⟨dX0_halve_41, rfl⟩
theorem dX0_halve_42 : decode cX0_halve 42 = .ok (.iload_n 2, 1) := by decide +kernel
theorem eX0_halve_42 : dec cX0_halve 42 (.iload_n 2) 1 43 := ⟨dX0_halve_42, rfl⟩
theorem dX0_halve_43 : decode cX0_halve 43 = .ok (.iadd, 1) := by decide +kernel
theorem eX0_halve_43 : dec cX0_halve 43 .iadd 1 44 := ⟨dX0_halve_43, rfl⟩
theorem dX0_halve_44 : decode cX0_halve 44 = .ok (.aload_n 0, 1) := by decide +kernel
theorem eX0_halve_44 : dec cX0_halve 44 (.aload_n 0) 1 45 := ⟨dX0_halve_44, rfl⟩
theorem dX0_halve_45 : decode cX0_halve 45 = .ok (.iconst 2, 1) := by decide +kernel
theorem eX0_halve_45 : dec cX0_halve 45 (.iconst 2) 1 46 := ⟨dX0_halve_45, rfl⟩
theorem dX0_halve_46 : decode cX0_halve 46 = .ok (.iload_n 1, 1) := by decide +kernel
theorem eX0_halve_46 : dec cX0_halve 46 (.iload_n 1) 1 47 := ⟨dX0_halve_46, rfl⟩
theorem dX0_halve_47 : decode cX0_halve 47 = .ok (.imul, 1) := by decide +kernel
theorem eX0_halve_47 : dec cX0_halve 47 .imul 1 48 := ⟨dX0_halve_47, rfl⟩
theorem dX0_halve_48 : decode cX0_halve 48 = .ok (.aload_n 0, 1) := by decide +kernel
theorem eX0_halve_48 : dec cX0_halve 48 (.aload_n 0) 1 49 := ⟨dX0_halve_48, rfl⟩
theorem dX0_halve_49 : decode cX0_halve 49 = .ok (.getfield 18, 3) := by decide +kernel
theorem eX0_halve_49 : dec cX0_halve 49 (.getfield 18) 3 52 := ⟨dX0_halve_49, rfl⟩
theorem dX0_halve_52 : decode cX0_halve 52 = .ok (.imul, 1) := by decide +kernel
theorem eX0_halve_52 : dec cX0_halve 52 .imul 1 53 := ⟨dX0_halve_52, rfl⟩
theorem dX0_halve_53 : decode cX0_halve 53 = .ok (.iconst 2, 1) := by decide +kernel
theorem eX0_halve_53 : dec cX0_halve 53 (.iconst 2) 1 54 := ⟨dX0_halve_53, rfl⟩
theorem dX0_halve_54 : decode cX0_halve 54 = .ok (.iload_n 2, 1) := by decide +kernel
theorem eX0_halve_54 : dec cX0_halve 54 (.iload_n 2) 1 55 := ⟨dX0_halve_54, rfl⟩
theorem dX0_halve_55 : decode cX0_halve 55 = .ok (.imul, 1) := by decide +kernel
theorem eX0_halve_55 : dec cX0_halve 55 .imul 1 56 := ⟨dX0_halve_55, rfl⟩
theorem dX0_halve_56 : decode cX0_halve 56 = .ok (.iadd, 1) := by decide +kernel
theorem eX0_halve_56 : dec cX0_halve 56 .iadd 1 57 := ⟨dX0_halve_56, rfl⟩
theorem dX0_halve_57 : decode cX0_halve 57 = .ok (.invokevirtual 161, 3) := by decide +kernel
theorem eX0_halve_57 : dec cX0_halve 57 (.invokevirtual 161) 3 60 := ⟨dX0_halve_57, rfl⟩
theorem dX0_halve_60 : decode cX0_halve 60 = .ok (.bastore, 1) := by decide +kernel
theorem eX0_halve_60 : dec cX0_halve 60 .bastore 1 61 := ⟨dX0_halve_60, rfl⟩
theorem dX0_halve_61 : decode cX0_halve 61 = .ok (.iinc 2 1, 3) := by decide +kernel
theorem eX0_halve_61 : dec cX0_halve 61 (.iinc 2 1) 3 64 := ⟨dX0_halve_61, rfl⟩
theorem dX0_halve_64 : decode cX0_halve 64 = .ok (.goto (-42), 3) := by decide +kernel
theorem eX0_halve_64 : dec cX0_halve 64 (.goto (-42)) 3 67 := ⟨dX0_halve_64, rfl⟩
theorem dX0_halve_67 : decode cX0_halve 67 = .ok (.iinc 1 1, 3) := by decide +kernel
theorem eX0_halve_67 : dec cX0_halve 67 (.iinc 1 1) 3 70 := ⟨dX0_halve_67, rfl⟩
theorem dX0_halve_70 : decode cX0_halve 70 = .ok (.goto (-60), 3) := by decide +kernel
theorem eX0_halve_70 : dec cX0_halve 70 (.goto (-60)) 3 73 := ⟨dX0_halve_70, rfl⟩
theorem dX0_halve_73 : decode cX0_halve 73 = .ok (.return_, 1) := by decide +kernel
theorem eX0_halve_73 : dec cX0_halve 73 .return_ 1 74 := ⟨dX0_halve_73, rfl⟩
theorem dX0_meanOfFour_0 : decode cX0_meanOfFour 0 = .ok (.aload_n 0, 1) := by decide +kernel
theorem eX0_meanOfFour_0 : dec cX0_meanOfFour 0 (.aload_n 0) 1 1 := ⟨dX0_meanOfFour_0, rfl⟩
theorem dX0_meanOfFour_1 : decode cX0_meanOfFour 1 = .ok (.getfield 25, 3) := by decide +kernel
theorem eX0_meanOfFour_1 : dec cX0_meanOfFour 1 (.getfield 25) 3 4 := ⟨dX0_meanOfFour_1, rfl⟩
theorem dX0_meanOfFour_4 : decode cX0_meanOfFour 4 = .ok (.iload_n 1, 1) := by decide +kernel
theorem eX0_meanOfFour_4 : dec cX0_meanOfFour 4 (.iload_n 1) 1 5 := ⟨dX0_meanOfFour_4, rfl⟩
theorem dX0_meanOfFour_5 : decode cX0_meanOfFour 5 = .ok (.baload, 1) := by decide +kernel
theorem eX0_meanOfFour_5 : dec cX0_meanOfFour 5 .baload 1 6 := ⟨dX0_meanOfFour_5, rfl⟩
theorem dX0_meanOfFour_6 : decode cX0_meanOfFour 6 = .ok (.sipush 255, 3) := by decide +kernel
theorem eX0_meanOfFour_6 : dec cX0_meanOfFour 6 (.sipush 255) 3 9 := ⟨dX0_meanOfFour_6, rfl⟩
theorem dX0_meanOfFour_9 : decode cX0_meanOfFour 9 = .ok (.iand, 1) := by decide +kernel
theorem eX0_meanOfFour_9 : dec cX0_meanOfFour 9 .iand 1 10 := ⟨dX0_meanOfFour_9, rfl⟩
theorem dX0_meanOfFour_10 : decode cX0_meanOfFour 10 = .ok (.aload_n 0, 1) := by decide +kernel
theorem eX0_meanOfFour_10 : dec cX0_meanOfFour 10 (.aload_n 0) 1 11 := ⟨dX0_meanOfFour_10, rfl⟩
theorem dX0_meanOfFour_11 : decode cX0_meanOfFour 11 = .ok (.getfield 25, 3) := by decide +kernel
theorem eX0_meanOfFour_11 : dec cX0_meanOfFour 11 (.getfield 25) 3 14 := ⟨dX0_meanOfFour_11, rfl⟩
theorem dX0_meanOfFour_14 : decode cX0_meanOfFour 14 = .ok (.iload_n 1, 1) := by decide +kernel
theorem eX0_meanOfFour_14 : dec cX0_meanOfFour 14 (.iload_n 1) 1 15 := ⟨dX0_meanOfFour_14, rfl⟩
theorem dX0_meanOfFour_15 : decode cX0_meanOfFour 15 = .ok (.iconst 1, 1) := by decide +kernel
theorem eX0_meanOfFour_15 : dec cX0_meanOfFour 15 (.iconst 1) 1 16 := ⟨dX0_meanOfFour_15, rfl⟩
theorem dX0_meanOfFour_16 : decode cX0_meanOfFour 16 = .ok (.iadd, 1) := by decide +kernel
theorem eX0_meanOfFour_16 : dec cX0_meanOfFour 16 .iadd 1 17 := ⟨dX0_meanOfFour_16, rfl⟩
theorem dX0_meanOfFour_17 : decode cX0_meanOfFour 17 = .ok (.baload, 1) := by decide +kernel
theorem eX0_meanOfFour_17 : dec cX0_meanOfFour 17 .baload 1 18 := ⟨dX0_meanOfFour_17, rfl⟩
theorem dX0_meanOfFour_18 : decode cX0_meanOfFour 18 = .ok (.sipush 255, 3) := by decide +kernel
theorem eX0_meanOfFour_18 : dec cX0_meanOfFour 18 (.sipush 255) 3 21 := ⟨dX0_meanOfFour_18, rfl⟩
theorem dX0_meanOfFour_21 : decode cX0_meanOfFour 21 = .ok (.iand, 1) := by decide +kernel
theorem eX0_meanOfFour_21 : dec cX0_meanOfFour 21 .iand 1 22 := ⟨dX0_meanOfFour_21, rfl⟩
theorem dX0_meanOfFour_22 : decode cX0_meanOfFour 22 = .ok (.iadd, 1) := by decide +kernel
theorem eX0_meanOfFour_22 : dec cX0_meanOfFour 22 .iadd 1 23 := ⟨dX0_meanOfFour_22, rfl⟩
theorem dX0_meanOfFour_23 : decode cX0_meanOfFour 23 = .ok (.istore_n 2, 1) := by decide +kernel
theorem eX0_meanOfFour_23 : dec cX0_meanOfFour 23 (.istore_n 2) 1 24 := ⟨dX0_meanOfFour_23, rfl⟩
theorem dX0_meanOfFour_24 : decode cX0_meanOfFour 24 = .ok (.aload_n 0, 1) := by decide +kernel
theorem eX0_meanOfFour_24 : dec cX0_meanOfFour 24 (.aload_n 0) 1 25 := ⟨dX0_meanOfFour_24, rfl⟩
theorem dX0_meanOfFour_25 : decode cX0_meanOfFour 25 = .ok (.getfield 25, 3) := by decide +kernel
theorem eX0_meanOfFour_25 : dec cX0_meanOfFour 25 (.getfield 25) 3 28 := ⟨dX0_meanOfFour_25, rfl⟩
theorem dX0_meanOfFour_28 : decode cX0_meanOfFour 28 = .ok (.iload_n 1, 1) := by decide +kernel
theorem eX0_meanOfFour_28 : dec cX0_meanOfFour 28 (.iload_n 1) 1 29 := ⟨dX0_meanOfFour_28, rfl⟩
theorem dX0_meanOfFour_29 : decode cX0_meanOfFour 29 = .ok (.aload_n 0, 1) := by decide +kernel
theorem eX0_meanOfFour_29 : dec cX0_meanOfFour 29 (.aload_n 0) 1 30 := ⟨dX0_meanOfFour_29, rfl⟩
theorem dX0_meanOfFour_30 : decode cX0_meanOfFour 30 = .ok (.getfield 18, 3) := by decide +kernel
theorem eX0_meanOfFour_30 : dec cX0_meanOfFour 30 (.getfield 18) 3 33 := ⟨dX0_meanOfFour_30, rfl⟩
theorem dX0_meanOfFour_33 : decode cX0_meanOfFour 33 = .ok (.iadd, 1) := by decide +kernel
theorem eX0_meanOfFour_33 : dec cX0_meanOfFour 33 .iadd 1 34 := ⟨dX0_meanOfFour_33, rfl⟩
theorem dX0_meanOfFour_34 : decode cX0_meanOfFour 34 = .ok (.baload, 1) := by decide +kernel
theorem eX0_meanOfFour_34 : dec cX0_meanOfFour 34 .baload 1 35 := ⟨dX0_meanOfFour_34, rfl⟩
theorem dX0_meanOfFour_35 : decode cX0_meanOfFour 35 = .ok (.sipush 255, 3) := by decide +kernel
theorem eX0_meanOfFour_35 : dec cX0_meanOfFour 35 (.sipush 255) 3 38 := ⟨dX0_meanOfFour_35, rfl⟩
theorem dX0_meanOfFour_38 : decode cX0_meanOfFour 38 = .ok (.iand, 1) := by decide +kernel
theorem eX0_meanOfFour_38 : dec cX0_meanOfFour 38 .iand 1 39 := ⟨dX0_meanOfFour_38, rfl⟩
theorem dX0_meanOfFour_39 : decode cX0_meanOfFour 39 = .ok (.aload_n 0, 1) := by decide +kernel
theorem eX0_meanOfFour_39 : dec cX0_meanOfFour 39 (.aload_n 0) 1 40 := ⟨dX0_meanOfFour_39, rfl⟩
theorem dX0_meanOfFour_40 : decode cX0_meanOfFour 40 = .ok (.getfield 25, 3) := by decide +kernel
theorem eX0_meanOfFour_40 : dec cX0_meanOfFour 40 (.getfield 25) 3 43 := ⟨dX0_meanOfFour_40, rfl⟩
theorem dX0_meanOfFour_43 : decode cX0_meanOfFour 43 = .ok (.iload_n 1, 1) := by decide +kernel
theorem eX0_meanOfFour_43 : dec cX0_meanOfFour 43 (.iload_n 1) 1 44 := ⟨dX0_meanOfFour_43, rfl⟩
theorem dX0_meanOfFour_44 : decode cX0_meanOfFour 44 = .ok (.aload_n 0, 1) := by decide +kernel
theorem eX0_meanOfFour_44 : dec cX0_meanOfFour 44 (.aload_n 0) 1 45 := ⟨dX0_meanOfFour_44, rfl⟩
theorem dX0_meanOfFour_45 : decode cX0_meanOfFour 45 = .ok (.getfield 18, 3) := by decide +kernel
theorem eX0_meanOfFour_45 : dec cX0_meanOfFour 45 (.getfield 18) 3 48 := ⟨dX0_meanOfFour_45, rfl⟩
theorem dX0_meanOfFour_48 : decode cX0_meanOfFour 48 = .ok (.iadd, 1) := by decide +kernel
theorem eX0_meanOfFour_48 : dec cX0_meanOfFour 48 .iadd 1 49 := ⟨dX0_meanOfFour_48, rfl⟩
theorem dX0_meanOfFour_49 : decode cX0_meanOfFour 49 = .ok (.iconst 1, 1) := by decide +kernel
theorem eX0_meanOfFour_49 : dec cX0_meanOfFour 49 (.iconst 1) 1 50 := ⟨dX0_meanOfFour_49, rfl⟩
theorem dX0_meanOfFour_50 : decode cX0_meanOfFour 50 = .ok (.iadd, 1) := by decide +kernel
theorem eX0_meanOfFour_50 : dec cX0_meanOfFour 50 .iadd 1 51 := ⟨dX0_meanOfFour_50, rfl⟩
theorem dX0_meanOfFour_51 : decode cX0_meanOfFour 51 = .ok (.baload, 1) := by decide +kernel
theorem eX0_meanOfFour_51 : dec cX0_meanOfFour 51 .baload 1 52 := ⟨dX0_meanOfFour_51, rfl⟩
theorem dX0_meanOfFour_52 : decode cX0_meanOfFour 52 = .ok (.sipush 255, 3) := by decide +kernel
theorem eX0_meanOfFour_52 : dec cX0_meanOfFour 52 (.sipush 255) 3 55 := ⟨dX0_meanOfFour_52, rfl⟩
theorem dX0_meanOfFour_55 : decode cX0_meanOfFour 55 = .ok (.iand, 1) := by decide +kernel
theorem eX0_meanOfFour_55 : dec cX0_meanOfFour 55 .iand 1 56 := ⟨dX0_meanOfFour_55, rfl⟩
theorem dX0_meanOfFour_56 : decode cX0_meanOfFour 56 = .ok (.iadd, 1) := by decide +kernel
theorem eX0_meanOfFour_56 : dec cX0_meanOfFour 56 .iadd 1 57 := ⟨dX0_meanOfFour_56, rfl⟩
theorem dX0_meanOfFour_57 : decode cX0_meanOfFour 57 = .ok (.istore_n 3, 1) := by decide +kernel
theorem eX0_meanOfFour_57 : dec cX0_meanOfFour 57 (.istore_n 3) 1 58 := ⟨dX0_meanOfFour_57, rfl⟩
theorem dX0_meanOfFour_58 : decode cX0_meanOfFour 58 = .ok (.iload_n 2, 1) := by decide +kernel
theorem eX0_meanOfFour_58 : dec cX0_meanOfFour 58 (.iload_n 2) 1 59 := ⟨dX0_meanOfFour_58, rfl⟩
theorem dX0_meanOfFour_59 : decode cX0_meanOfFour 59 = .ok (.iload_n 3, 1) := by decide +kernel
theorem eX0_meanOfFour_59 : dec cX0_meanOfFour 59 (.iload_n 3) 1 60 := ⟨dX0_meanOfFour_59, rfl⟩
theorem dX0_meanOfFour_60 : decode cX0_meanOfFour 60 = .ok (.iadd, 1) := by decide +kernel
theorem eX0_meanOfFour_60 : dec cX0_meanOfFour 60 .iadd 1 61 := ⟨dX0_meanOfFour_60, rfl⟩
theorem dX0_meanOfFour_61 : decode cX0_meanOfFour 61 = .ok (.iconst 4, 1) := by decide +kernel
theorem eX0_meanOfFour_61 : dec cX0_meanOfFour 61 (.iconst 4) 1 62 := ⟨dX0_meanOfFour_61, rfl⟩
theorem dX0_meanOfFour_62 : decode cX0_meanOfFour 62 = .ok (.idiv, 1) := by decide +kernel
theorem eX0_meanOfFour_62 : dec cX0_meanOfFour 62 .idiv 1 63 := ⟨dX0_meanOfFour_62, rfl⟩
theorem dX0_meanOfFour_63 : decode cX0_meanOfFour 63 = .ok (.i2b, 1) := by decide +kernel
theorem eX0_meanOfFour_63 : dec cX0_meanOfFour 63 .i2b 1 64 := ⟨dX0_meanOfFour_63, rfl⟩
theorem dX0_meanOfFour_64 : decode cX0_meanOfFour 64 = .ok (.ireturn, 1) := by decide +kernel
theorem eX0_meanOfFour_64 : dec cX0_meanOfFour 64 .ireturn 1 65 := ⟨dX0_meanOfFour_64, rfl⟩
