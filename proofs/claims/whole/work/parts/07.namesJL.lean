theorem dJx00060_init_a7421_0 : decode cJx00060_init_a7421 0 = .ok (.aload_n 0, 1) := by decide +kernel
theorem eJx00060_init_a7421_0 : dec cJx00060_init_a7421 0 (.aload_n 0) 1 1 := ⟨dJx00060_init_a7421_0, rfl⟩
theorem dJx00060_init_a7421_1 : decode cJx00060_init_a7421 1 = .ok (.aload_n 1, 1) := by decide +kernel
theorem eJx00060_init_a7421_1 : dec cJx00060_init_a7421 1 (.aload_n 1) 1 2 := ⟨dJx00060_init_a7421_1, rfl⟩
theorem dJx00060_init_a7421_2 : decode cJx00060_init_a7421 2 = .ok (.invokespecial 7, 3) := by decide +kernel
theorem eJx00060_init_a7421_2 : dec cJx00060_init_a7421 2 (.invokespecial 7) 3 5 := ⟨dJx00060_init_a7421_2, rfl⟩
theorem dJx00060_init_a7421_5 : decode cJx00060_init_a7421 5 = .ok (.return_, 1) := by decide +kernel
theorem eJx00060_init_a7421_5 : dec cJx00060_init_a7421 5 .return_ 1 6 := ⟨dJx00060_init_a7421_5, rfl⟩
theorem dJ9_floorDiv_7cf53_0 : decode cJ9_floorDiv_7cf53 0 = .ok (.iload_n 0, 1) := by decide +kernel
theorem eJ9_floorDiv_7cf53_0 : dec cJ9_floorDiv_7cf53 0 (.iload_n 0) 1 1 := ⟨dJ9_floorDiv_7cf53_0, rfl⟩
theorem dJ9_floorDiv_7cf53_1 : decode cJ9_floorDiv_7cf53 1 = .ok (.iload_n 1, 1) := by decide +kernel
theorem eJ9_floorDiv_7cf53_1 : dec cJ9_floorDiv_7cf53 1 (.iload_n 1) 1 2 := ⟨dJ9_floorDiv_7cf53_1, rfl⟩
theorem dJ9_floorDiv_7cf53_2 : decode cJ9_floorDiv_7cf53 2 = .ok (.idiv, 1) := by decide +kernel
theorem eJ9_floorDiv_7cf53_2 : dec cJ9_floorDiv_7cf53 2 .idiv 1 3 := ⟨dJ9_floorDiv_7cf53_2, rfl⟩
theorem dJ9_floorDiv_7cf53_3 : decode cJ9_floorDiv_7cf53 3 = .ok (.istore_n 2, 1) := by decide +kernel
theorem eJ9_floorDiv_7cf53_3 : dec cJ9_floorDiv_7cf53 3 (.istore_n 2) 1 4 := ⟨dJ9_floorDiv_7cf53_3, rfl⟩
theorem dJ9_floorDiv_7cf53_4 : decode cJ9_floorDiv_7cf53 4 = .ok (.iload_n 0, 1) := by decide +kernel
theorem eJ9_floorDiv_7cf53_4 : dec cJ9_floorDiv_7cf53 4 (.iload_n 0) 1 5 := ⟨dJ9_floorDiv_7cf53_4, rfl⟩
theorem dJ9_floorDiv_7cf53_5 : decode cJ9_floorDiv_7cf53 5 = .ok (.iload_n 1, 1) := by decide +kernel
theorem eJ9_floorDiv_7cf53_5 : dec cJ9_floorDiv_7cf53 5 (.iload_n 1) 1 6 := ⟨dJ9_floorDiv_7cf53_5, rfl⟩
theorem dJ9_floorDiv_7cf53_6 : decode cJ9_floorDiv_7cf53 6 = .ok (.ixor, 1) := by decide +kernel
theorem eJ9_floorDiv_7cf53_6 : dec cJ9_floorDiv_7cf53 6 .ixor 1 7 := ⟨dJ9_floorDiv_7cf53_6, rfl⟩
theorem dJ9_floorDiv_7cf53_7 : decode cJ9_floorDiv_7cf53 7 = .ok (.ifCond .ge 14, 3) := by decide +kernel
theorem eJ9_floorDiv_7cf53_7 : dec cJ9_floorDiv_7cf53 7 (.ifCond .ge 14) 3 10 := ⟨dJ9_floorDiv_7cf53_7, rfl⟩
theorem dJ9_floorDiv_7cf53_10 : decode cJ9_floorDiv_7cf53 10 = .ok (.iload_n 2, 1) := by decide +kernel
theorem eJ9_floorDiv_7cf53_10 : dec cJ9_floorDiv_7cf53 10 (.iload_n 2) 1 11 := ⟨dJ9_floorDiv_7cf53_10, rfl⟩
theorem dJ9_floorDiv_7cf53_11 : decode cJ9_floorDiv_7cf53 11 = .ok (.iload_n 1, 1) := by decide +kernel
theorem eJ9_floorDiv_7cf53_11 : dec cJ9_floorDiv_7cf53 11 (.iload_n 1) 1 12 := ⟨dJ9_floorDiv_7cf53_11, rfl⟩
theorem dJ9_floorDiv_7cf53_12 : decode cJ9_floorDiv_7cf53 12 = .ok (.imul, 1) := by decide +kernel
theorem eJ9_floorDiv_7cf53_12 : dec cJ9_floorDiv_7cf53 12 .imul 1 13 := ⟨dJ9_floorDiv_7cf53_12, rfl⟩
theorem dJ9_floorDiv_7cf53_13 : decode cJ9_floorDiv_7cf53 13 = .ok (.iload_n 0, 1) := by decide +kernel
theorem eJ9_floorDiv_7cf53_13 : dec cJ9_floorDiv_7cf53 13 (.iload_n 0) 1 14 := ⟨dJ9_floorDiv_7cf53_13, rfl⟩
theorem dJ9_floorDiv_7cf53_14 : decode cJ9_floorDiv_7cf53 14 = .ok (.if_icmp .eq 7, 3) := by decide +kernel
theorem eJ9_floorDiv_7cf53_14 : dec cJ9_floorDiv_7cf53 14 (.if_icmp .eq 7) 3 17 := ⟨dJ9_floorDiv_7cf53_14, rfl⟩
theorem dJ9_floorDiv_7cf53_17 : decode cJ9_floorDiv_7cf53 17 = .ok (.iload_n 2, 1) := by decide +kernel
theorem eJ9_floorDiv_7cf53_17 : dec cJ9_floorDiv_7cf53 17 (.iload_n 2) 1 18 := ⟨dJ9_floorDiv_7cf53_17, rfl⟩
theorem dJ9_floorDiv_7cf53_18 : decode cJ9_floorDiv_7cf53 18 = .ok (.iconst 1, 1) := by decide +kernel
theorem eJ9_floorDiv_7cf53_18 : dec cJ9_floorDiv_7cf53 18 (.iconst 1) 1 19 := ⟨dJ9_floorDiv_7cf53_18, rfl⟩
theorem dJ9_floorDiv_7cf53_19 : decode cJ9_floorDiv_7cf53 19 = .ok (.isub, 1) := by decide +kernel
theorem eJ9_floorDiv_7cf53_19 : dec cJ9_floorDiv_7cf53 19 .isub 1 20 := ⟨dJ9_floorDiv_7cf53_19, rfl⟩
theorem dJ9_floorDiv_7cf53_20 : decode cJ9_floorDiv_7cf53 20 = .ok (.ireturn, 1) := by decide +kernel
theorem eJ9_floorDiv_7cf53_20 : dec cJ9_floorDiv_7cf53 20 .ireturn 1 21 := ⟨dJ9_floorDiv_7cf53_20, rfl⟩
theorem dJ9_floorDiv_7cf53_21 : decode cJ9_floorDiv_7cf53 21 = .ok (.iload_n 2, 1) := by decide +kernel
theorem eJ9_floorDiv_7cf53_21 : dec cJ9_floorDiv_7cf53 21 (.iload_n 2) 1 22 := ⟨dJ9_floorDiv_7cf53_21, rfl⟩
theorem dJ9_floorDiv_7cf53_22 : decode cJ9_floorDiv_7cf53 22 = .ok (.ireturn, 1) := by decide +kernel
theorem eJ9_floorDiv_7cf53_22 : dec cJ9_floorDiv_7cf53 22 .ireturn 1 23 := ⟨dJ9_floorDiv_7cf53_22, rfl⟩
theorem dJ9_floorMod_7cf53_0 : decode cJ9_floorMod_7cf53 0 = .ok (.iload_n 0, 1) := by decide +kernel
theorem eJ9_floorMod_7cf53_0 : dec cJ9_floorMod_7cf53 0 (.iload_n 0) 1 1 := ⟨dJ9_floorMod_7cf53_0, rfl⟩
theorem dJ9_floorMod_7cf53_1 : decode cJ9_floorMod_7cf53 1 = .ok (.iload_n 1, 1) := by decide +kernel
theorem eJ9_floorMod_7cf53_1 : dec cJ9_floorMod_7cf53 1 (.iload_n 1) 1 2 := ⟨dJ9_floorMod_7cf53_1, rfl⟩
theorem dJ9_floorMod_7cf53_2 : decode cJ9_floorMod_7cf53 2 = .ok (.irem, 1) := by decide +kernel
theorem eJ9_floorMod_7cf53_2 : dec cJ9_floorMod_7cf53 2 .irem 1 3 := ⟨dJ9_floorMod_7cf53_2, rfl⟩
theorem dJ9_floorMod_7cf53_3 : decode cJ9_floorMod_7cf53 3 = .ok (.istore_n 2, 1) := by decide +kernel
theorem eJ9_floorMod_7cf53_3 : dec cJ9_floorMod_7cf53 3 (.istore_n 2) 1 4 := ⟨dJ9_floorMod_7cf53_3, rfl⟩
theorem dJ9_floorMod_7cf53_4 : decode cJ9_floorMod_7cf53 4 = .ok (.iload_n 0, 1) := by decide +kernel
theorem eJ9_floorMod_7cf53_4 : dec cJ9_floorMod_7cf53 4 (.iload_n 0) 1 5 := ⟨dJ9_floorMod_7cf53_4, rfl⟩
theorem dJ9_floorMod_7cf53_5 : decode cJ9_floorMod_7cf53 5 = .ok (.iload_n 1, 1) := by decide +kernel
theorem eJ9_floorMod_7cf53_5 : dec cJ9_floorMod_7cf53 5 (.iload_n 1) 1 6 := ⟨dJ9_floorMod_7cf53_5, rfl⟩
theorem dJ9_floorMod_7cf53_6 : decode cJ9_floorMod_7cf53 6 = .ok (.ixor, 1) := by decide +kernel
theorem eJ9_floorMod_7cf53_6 : dec cJ9_floorMod_7cf53 6 .ixor 1 7 := ⟨dJ9_floorMod_7cf53_6, rfl⟩
theorem dJ9_floorMod_7cf53_7 : decode cJ9_floorMod_7cf53 7 = .ok (.ifCond .ge 11, 3) := by decide +kernel
theorem eJ9_floorMod_7cf53_7 : dec cJ9_floorMod_7cf53 7 (.ifCond .ge 11) 3 10 := ⟨dJ9_floorMod_7cf53_7, rfl⟩
theorem dJ9_floorMod_7cf53_10 : decode cJ9_floorMod_7cf53 10 = .ok (.iload_n 2, 1) := by decide +kernel
theorem eJ9_floorMod_7cf53_10 : dec cJ9_floorMod_7cf53 10 (.iload_n 2) 1 11 := ⟨dJ9_floorMod_7cf53_10, rfl⟩
theorem dJ9_floorMod_7cf53_11 : decode cJ9_floorMod_7cf53 11 = .ok (.ifCond .eq 7, 3) := by decide +kernel
theorem eJ9_floorMod_7cf53_11 : dec cJ9_floorMod_7cf53 11 (.ifCond .eq 7) 3 14 := ⟨dJ9_floorMod_7cf53_11, rfl⟩
theorem dJ9_floorMod_7cf53_14 : decode cJ9_floorMod_7cf53 14 = .ok (.iload_n 2, 1) := by decide +kernel
theorem eJ9_floorMod_7cf53_14 : dec cJ9_floorMod_7cf53 14 (.iload_n 2) 1 15 := ⟨dJ9_floorMod_7cf53_14, rfl⟩
theorem dJ9_floorMod_7cf53_15 : decode cJ9_floorMod_7cf53 15 = .ok (.iload_n 1, 1) := by decide +kernel
theorem eJ9_floorMod_7cf53_15 : dec cJ9_floorMod_7cf53 15 (.iload_n 1) 1 16 := ⟨dJ9_floorMod_7cf53_15, rfl⟩
theorem dJ9_floorMod_7cf53_16 : decode cJ9_floorMod_7cf53 16 = .ok (.iadd, 1) := by decide +kernel
theorem eJ9_floorMod_7cf53_16 : dec cJ9_floorMod_7cf53 16 .iadd 1 17 := ⟨dJ9_floorMod_7cf53_16, rfl⟩
theorem dJ9_floorMod_7cf53_17 : decode cJ9_floorMod_7cf53 17 = .ok (.ireturn, 1) := by decide +kernel
theorem eJ9_floorMod_7cf53_17 : dec cJ9_floorMod_7cf53 17 .ireturn 1 18 := ⟨dJ9_floorMod_7cf53_17, rfl⟩
theorem dJ9_floorMod_7cf53_18 : decode cJ9_floorMod_7cf53 18 = .ok (.iload_n 2, 1) := by decide +kernel
theorem eJ9_floorMod_7cf53_18 : dec cJ9_floorMod_7cf53 18 (.iload_n 2) 1 19 := ⟨dJ9_floorMod_7cf53_18, rfl⟩
theorem dJ9_floorMod_7cf53_19 : decode cJ9_floorMod_7cf53 19 = .ok (.ireturn, 1) := by decide +kernel
theorem eJ9_floorMod_7cf53_19 : dec cJ9_floorMod_7cf53 19 .ireturn 1 20 := ⟨dJ9_floorMod_7cf53_19, rfl⟩
theorem dJ9_max_7cf53_0 : decode cJ9_max_7cf53 0 = .ok (.iload_n 0, 1) := by decide +kernel
theorem eJ9_max_7cf53_0 : dec cJ9_max_7cf53 0 (.iload_n 0) 1 1 := ⟨dJ9_max_7cf53_0, rfl⟩
theorem dJ9_max_7cf53_1 : decode cJ9_max_7cf53 1 = .ok (.iload_n 1, 1) := by decide +kernel
theorem eJ9_max_7cf53_1 : dec cJ9_max_7cf53 1 (.iload_n 1) 1 2 := ⟨dJ9_max_7cf53_1, rfl⟩
theorem dJ9_max_7cf53_2 : decode cJ9_max_7cf53 2 = .ok (.if_icmp .lt 7, 3) := by decide +kernel
theorem eJ9_max_7cf53_2 : dec cJ9_max_7cf53 2 (.if_icmp .lt 7) 3 5 := ⟨dJ9_max_7cf53_2, rfl⟩
theorem dJ9_max_7cf53_5 : decode cJ9_max_7cf53 5 = .ok (.iload_n 0, 1) := by decide +kernel
theorem eJ9_max_7cf53_5 : dec cJ9_max_7cf53 5 (.iload_n 0) 1 6 := ⟨dJ9_max_7cf53_5, rfl⟩
theorem dJ9_max_7cf53_6 : decode cJ9_max_7cf53 6 = .ok (.goto 4, 3) := by decide +kernel
theorem eJ9_max_7cf53_6 : dec cJ9_max_7cf53 6 (.goto 4) 3 9 := ⟨dJ9_max_7cf53_6, rfl⟩
theorem dJ9_max_7cf53_9 : decode cJ9_max_7cf53 9 = .ok (.iload_n 1, 1) := by decide +kernel
theorem eJ9_max_7cf53_9 : dec cJ9_max_7cf53 9 (.iload_n 1) 1 10 := ⟨dJ9_max_7cf53_9, rfl⟩
theorem dJ9_max_7cf53_10 : decode cJ9_max_7cf53 10 = .ok (.ireturn, 1) := by decide +kernel
theorem eJ9_max_7cf53_10 : dec cJ9_max_7cf53 10 .ireturn 1 11 := ⟨dJ9_max_7cf53_10, rfl⟩
theorem dJ9_min_7cf53_0 : decode cJ9_min_7cf53 0 = .ok (.iload_n 0, 1) := by decide +kernel
theorem eJ9_min_7cf53_0 : dec cJ9_min_7cf53 0 (.iload_n 0) 1 1 := ⟨dJ9_min_7cf53_0, rfl⟩
theorem dJ9_min_7cf53_1 : decode cJ9_min_7cf53 1 = .ok (.iload_n 1, 1) := by decide +kernel
theorem eJ9_min_7cf53_1 : dec cJ9_min_7cf53 1 (.iload_n 1) 1 2 := ⟨dJ9_min_7cf53_1, rfl⟩
theorem dJ9_min_7cf53_2 : decode cJ9_min_7cf53 2 = .ok (.if_icmp .gt 7, 3) := by decide +kernel
theorem eJ9_min_7cf53_2 : dec cJ9_min_7cf53 2 (.if_icmp .gt 7) 3 5 := ⟨dJ9_min_7cf53_2, rfl⟩
theorem dJ9_min_7cf53_5 : decode cJ9_min_7cf53 5 = .ok (.iload_n 0, 1) := by decide +kernel
theorem eJ9_min_7cf53_5 : dec cJ9_min_7cf53 5 (.iload_n 0) 1 6 := ⟨dJ9_min_7cf53_5, rfl⟩
theorem dJ9_min_7cf53_6 : decode cJ9_min_7cf53 6 = .ok (.goto 4, 3) := by decide +kernel
theorem eJ9_min_7cf53_6 : dec cJ9_min_7cf53 6 (.goto 4) 3 9 := ⟨dJ9_min_7cf53_6, rfl⟩
theorem dJ9_min_7cf53_9 : decode cJ9_min_7cf53 9 = .ok (.iload_n 1, 1) := by decide +kernel
theorem eJ9_min_7cf53_9 : dec cJ9_min_7cf53 9 (.iload_n 1) 1 10 := ⟨dJ9_min_7cf53_9, rfl⟩
theorem dJ9_min_7cf53_10 : decode cJ9_min_7cf53 10 = .ok (.ireturn, 1) := by decide +kernel
theorem eJ9_min_7cf53_10 : dec cJ9_min_7cf53 10 .ireturn 1 11 := ⟨dJ9_min_7cf53_10, rfl⟩
theorem dJ7_fill_53178_0 : decode cJ7_fill_53178 0 = .ok (.iconst 0, 1) := by decide +kernel
theorem eJ7_fill_53178_0 : dec cJ7_fill_53178 0 (.iconst 0) 1 1 := ⟨dJ7_fill_53178_0, rfl⟩
theorem dJ7_fill_53178_1 : decode cJ7_fill_53178 1 = .ok (.istore_n 2, 1) := by decide +kernel
theorem eJ7_fill_53178_1 : dec cJ7_fill_53178 1 (.istore_n 2) 1 2 := ⟨dJ7_fill_53178_1, rfl⟩
theorem dJ7_fill_53178_2 : decode cJ7_fill_53178 2 = .ok (.aload_n 0, 1) := by decide +kernel
theorem eJ7_fill_53178_2 : dec cJ7_fill_53178 2 (.aload_n 0) 1 3 := ⟨dJ7_fill_53178_2, rfl⟩
theorem dJ7_fill_53178_3 : decode cJ7_fill_53178 3 = .ok (.arraylength, 1) := by decide +kernel
theorem eJ7_fill_53178_3 : dec cJ7_fill_53178 3 .arraylength 1 4 := ⟨dJ7_fill_53178_3, rfl⟩
theorem dJ7_fill_53178_4 : decode cJ7_fill_53178 4 = .ok (.istore_n 3, 1) := by decide +kernel
theorem eJ7_fill_53178_4 : dec cJ7_fill_53178 4 (.istore_n 3) 1 5 := ⟨dJ7_fill_53178_4, rfl⟩
theorem dJ7_fill_53178_5 : decode cJ7_fill_53178 5 = .ok (.iload_n 2, 1) := by decide +kernel
theorem eJ7_fill_53178_5 : dec cJ7_fill_53178 5 (.iload_n 2) 1 6 := ⟨dJ7_fill_53178_5, rfl⟩
theorem dJ7_fill_53178_6 : decode cJ7_fill_53178 6 = .ok (.iload_n 3, 1) := by decide +kernel
theorem eJ7_fill_53178_6 : dec cJ7_fill_53178 6 (.iload_n 3) 1 7 := ⟨dJ7_fill_53178_6, rfl⟩
theorem dJ7_fill_53178_7 : decode cJ7_fill_53178 7 = .ok (.if_icmp .ge 13, 3) := by decide +kernel
theorem eJ7_fill_53178_7 : dec cJ7_fill_53178 7 (.if_icmp .ge 13) 3 10 := ⟨dJ7_fill_53178_7, rfl⟩
theorem dJ7_fill_53178_10 : decode cJ7_fill_53178 10 = .ok (.aload_n 0, 1) := by decide +kernel
theorem eJ7_fill_53178_10 : dec cJ7_fill_53178 10 (.aload_n 0) 1 11 := ⟨dJ7_fill_53178_10, rfl⟩
theorem dJ7_fill_53178_11 : decode cJ7_fill_53178 11 = .ok (.iload_n 2, 1) := by decide +kernel
theorem eJ7_fill_53178_11 : dec cJ7_fill_53178 11 (.iload_n 2) 1 12 := ⟨dJ7_fill_53178_11, rfl⟩
theorem dJ7_fill_53178_12 : decode cJ7_fill_53178 12 = .ok (.iload_n 1, 1) := by decide +kernel
theorem eJ7_fill_53178_12 : dec cJ7_fill_53178 12 (.iload_n 1) 1 13 := ⟨dJ7_fill_53178_12, rfl⟩
theorem dJ7_fill_53178_13 : decode cJ7_fill_53178 13 = .ok (.iastore, 1) := by decide +kernel
theorem eJ7_fill_53178_13 : dec cJ7_fill_53178 13 .iastore 1 14 := ⟨dJ7_fill_53178_13, rfl⟩
theorem dJ7_fill_53178_14 : decode cJ7_fill_53178 14 = .ok (.iinc 2 1, 3) := by decide +kernel
theorem eJ7_fill_53178_14 : dec cJ7_fill_53178 14 (.iinc 2 1) 3 17 := ⟨dJ7_fill_53178_14, rfl⟩
theorem dJ7_fill_53178_17 : decode cJ7_fill_53178 17 = .ok (.goto (-12), 3) := by decide +kernel
theorem eJ7_fill_53178_17 : dec cJ7_fill_53178 17 (.goto (-12)) 3 20 := ⟨dJ7_fill_53178_17, rfl⟩
theorem dJ7_fill_53178_20 : decode cJ7_fill_53178 20 = .ok (.return_, 1) := by decide +kernel
theorem eJ7_fill_53178_20 : dec cJ7_fill_53178 20 .return_ 1 21 := ⟨dJ7_fill_53178_20, rfl⟩
theorem dJ7_fill_031fb_0 : decode cJ7_fill_031fb 0 = .ok (.iconst 0, 1) := by decide +kernel
theorem eJ7_fill_031fb_0 : dec cJ7_fill_031fb 0 (.iconst 0) 1 1 := ⟨dJ7_fill_031fb_0, rfl⟩
theorem dJ7_fill_031fb_1 : decode cJ7_fill_031fb 1 = .ok (.istore_n 2, 1) := by decide +kernel
theorem eJ7_fill_031fb_1 : dec cJ7_fill_031fb 1 (.istore_n 2) 1 2 := ⟨dJ7_fill_031fb_1, rfl⟩
theorem dJ7_fill_031fb_2 : decode cJ7_fill_031fb 2 = .ok (.aload_n 0, 1) := by decide +kernel
theorem eJ7_fill_031fb_2 : dec cJ7_fill_031fb 2 (.aload_n 0) 1 3 := ⟨dJ7_fill_031fb_2, rfl⟩
theorem dJ7_fill_031fb_3 : decode cJ7_fill_031fb 3 = .ok (.arraylength, 1) := by decide +kernel
theorem eJ7_fill_031fb_3 : dec cJ7_fill_031fb 3 .arraylength 1 4 := ⟨dJ7_fill_031fb_3, rfl⟩
theorem dJ7_fill_031fb_4 : decode cJ7_fill_031fb 4 = .ok (.istore_n 3, 1) := by decide +kernel
theorem eJ7_fill_031fb_4 : dec cJ7_fill_031fb 4 (.istore_n 3) 1 5 := ⟨dJ7_fill_031fb_4, rfl⟩
theorem dJ7_fill_031fb_5 : decode cJ7_fill_031fb 5 = .ok (.iload_n 2, 1) := by decide +kernel
theorem eJ7_fill_031fb_5 : dec cJ7_fill_031fb 5 (.iload_n 2) 1 6 := ⟨dJ7_fill_031fb_5, rfl⟩
theorem dJ7_fill_031fb_6 : decode cJ7_fill_031fb 6 = .ok (.iload_n 3, 1) := by decide +kernel
theorem eJ7_fill_031fb_6 : dec cJ7_fill_031fb 6 (.iload_n 3) 1 7 := ⟨dJ7_fill_031fb_6, rfl⟩
theorem dJ7_fill_031fb_7 : decode cJ7_fill_031fb 7 = .ok (.if_icmp .ge 13, 3) := by decide +kernel
theorem eJ7_fill_031fb_7 : dec cJ7_fill_031fb 7 (.if_icmp .ge 13) 3 10 := ⟨dJ7_fill_031fb_7, rfl⟩
theorem dJ7_fill_031fb_10 : decode cJ7_fill_031fb 10 = .ok (.aload_n 0, 1) := by decide +kernel
theorem eJ7_fill_031fb_10 : dec cJ7_fill_031fb 10 (.aload_n 0) 1 11 := ⟨dJ7_fill_031fb_10, rfl⟩
theorem dJ7_fill_031fb_11 : decode cJ7_fill_031fb 11 = .ok (.iload_n 2, 1) := by decide +kernel
theorem eJ7_fill_031fb_11 : dec cJ7_fill_031fb 11 (.iload_n 2) 1 12 := ⟨dJ7_fill_031fb_11, rfl⟩
theorem dJ7_fill_031fb_12 : decode cJ7_fill_031fb 12 = .ok (.iload_n 1, 1) := by decide +kernel
theorem eJ7_fill_031fb_12 : dec cJ7_fill_031fb 12 (.iload_n 1) 1 13 := ⟨dJ7_fill_031fb_12, rfl⟩
theorem dJ7_fill_031fb_13 : decode cJ7_fill_031fb 13 = .ok (.bastore, 1) := by decide +kernel
theorem eJ7_fill_031fb_13 : dec cJ7_fill_031fb 13 .bastore 1 14 := ⟨dJ7_fill_031fb_13, rfl⟩
theorem dJ7_fill_031fb_14 : decode cJ7_fill_031fb 14 = .ok (.iinc 2 1, 3) := by decide +kernel
theorem eJ7_fill_031fb_14 : dec cJ7_fill_031fb 14 (.iinc 2 1) 3 17 := ⟨dJ7_fill_031fb_14, rfl⟩
theorem dJ7_fill_031fb_17 : decode cJ7_fill_031fb 17 = .ok (.goto (-12), 3) := by decide +kernel
theorem eJ7_fill_031fb_17 : dec cJ7_fill_031fb 17 (.goto (-12)) 3 20 := ⟨dJ7_fill_031fb_17, rfl⟩
theorem dJ7_fill_031fb_20 : decode cJ7_fill_031fb 20 = .ok (.return_, 1) := by decide +kernel
theorem eJ7_fill_031fb_20 : dec cJ7_fill_031fb 20 .return_ 1 21 := ⟨dJ7_fill_031fb_20, rfl⟩
theorem dL_cell_0 : decode cL_cell 0 = .ok (.iload_n 1, 1) := by decide +kernel
theorem eL_cell_0 : dec cL_cell 0 (.iload_n 1) 1 1 := ⟨dL_cell_0, rfl⟩
theorem dL_cell_1 : decode cL_cell 1 = .ok (.aload_n 0, 1) := by decide +kernel
theorem eL_cell_1 : dec cL_cell 1 (.aload_n 0) 1 2 := ⟨dL_cell_1, rfl⟩
theorem dL_cell_2 : decode cL_cell 2 = .ok (.arraylength, 1) := by decide +kernel
theorem eL_cell_2 : dec cL_cell 2 .arraylength 1 3 := ⟨dL_cell_2, rfl⟩
theorem dL_cell_3 : decode cL_cell 3 = .ok (.if_icmp .ge 9, 3) := by decide +kernel
theorem eL_cell_3 : dec cL_cell 3 (.if_icmp .ge 9) 3 6 := ⟨dL_cell_3, rfl⟩
theorem dL_cell_6 : decode cL_cell 6 = .ok (.aload_n 0, 1) := by decide +kernel
theorem eL_cell_6 : dec cL_cell 6 (.aload_n 0) 1 7 := ⟨dL_cell_6, rfl⟩
theorem dL_cell_7 : decode cL_cell 7 = .ok (.iload_n 1, 1) := by decide +kernel
theorem eL_cell_7 : dec cL_cell 7 (.iload_n 1) 1 8 := ⟨dL_cell_7, rfl⟩
theorem dL_cell_8 : decode cL_cell 8 = .ok (.iaload, 1) := by decide +kernel
theorem eL_cell_8 : dec cL_cell 8 .iaload 1 9 := ⟨dL_cell_8, rfl⟩
theorem dL_cell_9 : decode cL_cell 9 = .ok (.goto 4, 3) := by decide +kernel
theorem eL_cell_9 : dec cL_cell 9 (.goto 4) 3 12 := ⟨dL_cell_9, rfl⟩
theorem dL_cell_12 : decode cL_cell 12 = .ok (.iconst 0, 1) := by decide +kernel
theorem eL_cell_12 : dec cL_cell 12 (.iconst 0) 1 13 := ⟨dL_cell_12, rfl⟩
theorem dL_cell_13 : decode cL_cell 13 = .ok (.ireturn, 1) := by decide +kernel
theorem eL_cell_13 : dec cL_cell 13 .ireturn 1 14 := ⟨dL_cell_13, rfl⟩
set_option maxRecDepth 20000 in
theorem ggL_put_X0_put : GoodIn wsL_put wsX0_put := goodIn_r _ [5, 6, 7, 8, 9, 10, 11, 12, 13, 4, 14, 15, 16, 17, 18, 19, 20, 21, 22, 23, 24, 25, 26, 27, 28, 29, 30, 31, 32, 33, 34, 35, 36, 37] (by decide +kernel) (by decide +kernel)
set_option maxRecDepth 20000 in
theorem gL_put_X0_put : GoodIn wsL_put (wsV RL 7 RX0 yX0_put wsX0_put) := goodIn_app (goodIn_of _ (by decide +kernel)) ggL_put_X0_put
theorem dL_put_0 : decode cL_put 0 = .ok (.aload_n 0, 1) := by decide +kernel
theorem eL_put_0 : dec cL_put 0 (.aload_n 0) 1 1 := ⟨dL_put_0, rfl⟩
theorem dL_put_1 : decode cL_put 1 = .ok (.iload_n 1, 1) := by decide +kernel
theorem eL_put_1 : dec cL_put 1 (.iload_n 1) 1 2 := ⟨dL_put_1, rfl⟩
theorem dL_put_2 : decode cL_put 2 = .ok (.iload_n 2, 1) := by decide +kernel
theorem eL_put_2 : dec cL_put 2 (.iload_n 2) 1 3 := ⟨dL_put_2, rfl⟩
theorem dL_put_3 : decode cL_put 3 = .ok (.iload_n 3, 1) := by decide +kernel
theorem eL_put_3 : dec cL_put 3 (.iload_n 3) 1 4 := ⟨dL_put_3, rfl⟩
theorem dL_put_4 : decode cL_put 4 = .ok (.invokevirtual 7, 3) := by decide +kernel
theorem eL_put_4 : dec cL_put 4 (.invokevirtual 7) 3 7 := ⟨dL_put_4, rfl⟩
theorem dL_put_7 : decode cL_put 7 = .ok (.goto 7, 3) := by decide +kernel
theorem eL_put_7 : dec cL_put 7 (.goto 7) 3 10 := ⟨dL_put_7, rfl⟩
theorem dL_put_10 : decode cL_put 10 = .ok (.astore 4, 2) := by decide +kernel
theorem eL_put_10 : dec cL_put 10 (.astore 4) 2 12 := ⟨dL_put_10, rfl⟩
theorem dL_put_12 : decode cL_put 12 = .ok (.iconst 1, 1) := by decide +kernel
theorem eL_put_12 : dec cL_put 12 (.iconst 1) 1 13 := ⟨dL_put_12, rfl⟩
theorem dL_put_13 : decode cL_put 13 = .ok (.ireturn, 1) := by decide +kernel
theorem eL_put_13 : dec cL_put 13 .ireturn 1 14 := ⟨dL_put_13, rfl⟩
theorem dL_put_14 : decode cL_put 14 = .ok (.iconst 0, 1) := by decide +kernel
theorem eL_put_14 : dec cL_put 14 (.iconst 0) 1 15 := ⟨dL_put_14, rfl⟩
theorem dL_put_15 : decode cL_put 15 = .ok (.ireturn, 1) := by decide +kernel
theorem eL_put_15 : dec cL_put 15 .ireturn 1 16 := ⟨dL_put_15, rfl⟩
set_option maxRecDepth 20000 in
theorem ggL_octet_X0_octet : GoodIn wsL_octet wsX0_octet := goodIn_r _ [5, 6, 7, 8, 9, 10, 11, 12, 13, 14, 15, 16, 17, 18, 19, 20, 21, 22, 23, 24, 25, 26, 27, 28, 29, 30, 31, 32] (by decide +kernel) (by decide +kernel)
set_option maxRecDepth 20000 in
theorem gL_octet_X0_octet : GoodIn wsL_octet (wsV RL 15 RX0 yX0_octet wsX0_octet) := goodIn_app (goodIn_of _ (by decide +kernel)) ggL_octet_X0_octet
theorem dL_octet_0 : decode cL_octet 0 = .ok (.aload_n 2, 1) := by decide +kernel
theorem eL_octet_0 : dec cL_octet 0 (.aload_n 2) 1 1 := ⟨dL_octet_0, rfl⟩
theorem dL_octet_1 : decode cL_octet 1 = .ok (.iconst 0, 1) := by decide +kernel
theorem eL_octet_1 : dec cL_octet 1 (.iconst 0) 1 2 := ⟨dL_octet_1, rfl⟩
theorem dL_octet_2 : decode cL_octet 2 = .ok (.aload_n 0, 1) := by decide +kernel
theorem eL_octet_2 : dec cL_octet 2 (.aload_n 0) 1 3 := ⟨dL_octet_2, rfl⟩
theorem dL_octet_3 : decode cL_octet 3 = .ok (.iload_n 1, 1) := by decide +kernel
theorem eL_octet_3 : dec cL_octet 3 (.iload_n 1) 1 4 := ⟨dL_octet_3, rfl⟩
theorem dL_octet_4 : decode cL_octet 4 = .ok (.invokevirtual 15, 3) := by decide +kernel
theorem eL_octet_4 : dec cL_octet 4 (.invokevirtual 15) 3 7 := ⟨dL_octet_4, rfl⟩
theorem dL_octet_7 : decode cL_octet 7 = .ok (.i2l, 1) := by decide +kernel
theorem eL_octet_7 : dec cL_octet 7 .i2l 1 8 := ⟨dL_octet_7, rfl⟩
theorem dL_octet_8 : decode cL_octet 8 = .ok (.lastore, 1) := by decide +kernel
theorem eL_octet_8 : dec cL_octet 8 .lastore 1 9 := ⟨dL_octet_8, rfl⟩
theorem dL_octet_9 : decode cL_octet 9 = .ok (.goto 6, 3) := by decide +kernel
theorem eL_octet_9 : dec cL_octet 9 (.goto 6) 3 12 := ⟨dL_octet_9, rfl⟩
theorem dL_octet_12 : decode cL_octet 12 = .ok (.astore_n 3, 1) := by decide +kernel
theorem eL_octet_12 : dec cL_octet 12 (.astore_n 3) 1 13 := ⟨dL_octet_12, rfl⟩
theorem dL_octet_13 : decode cL_octet 13 = .ok (.iconst 1, 1) := by decide +kernel
theorem eL_octet_13 : dec cL_octet 13 (.iconst 1) 1 14 := ⟨dL_octet_13, rfl⟩
theorem dL_octet_14 : decode cL_octet 14 = .ok (.ireturn, 1) := by decide +kernel
theorem eL_octet_14 : dec cL_octet 14 .ireturn 1 15 := ⟨dL_octet_14, rfl⟩
theorem dL_octet_15 : decode cL_octet 15 = .ok (.iconst 0, 1) := by decide +kernel
theorem eL_octet_15 : dec cL_octet 15 (.iconst 0) 1 16 := ⟨dL_octet_15, rfl⟩
theorem dL_octet_16 : decode cL_octet 16 = .ok (.ireturn, 1) := by decide +kernel
theorem eL_octet_16 : dec cL_octet 16 .ireturn 1 17 := ⟨dL_octet_16, rfl⟩
set_option maxRecDepth 20000 in
theorem ggL_grey_X0_grey : GoodIn wsL_grey wsX0_grey := goodIn_r _ [5, 6, 7, 8, 9, 10, 11, 12, 13, 4, 14, 15, 16, 17, 18, 19, 20, 21, 22, 23, 24, 25, 26, 27, 28, 29, 30, 31, 32, 33, 34, 35, 36, 37] (by decide +kernel) (by decide +kernel)
set_option maxRecDepth 20000 in
theorem gL_grey_X0_grey : GoodIn wsL_grey (wsV RL 19 RX0 yX0_grey wsX0_grey) := goodIn_app (goodIn_of _ (by decide +kernel)) ggL_grey_X0_grey
theorem dL_grey_0 : decode cL_grey 0 = .ok (.aload_n 3, 1) := by decide +kernel
theorem eL_grey_0 : dec cL_grey 0 (.aload_n 3) 1 1 := ⟨dL_grey_0, rfl⟩
theorem dL_grey_1 : decode cL_grey 1 = .ok (.iconst 0, 1) := by decide +kernel
theorem eL_grey_1 : dec cL_grey 1 (.iconst 0) 1 2 := ⟨dL_grey_1, rfl⟩
theorem dL_grey_2 : decode cL_grey 2 = .ok (.aload_n 0, 1) := by decide +kernel
theorem eL_grey_2 : dec cL_grey 2 (.aload_n 0) 1 3 := ⟨dL_grey_2, rfl⟩
theorem dL_grey_3 : decode cL_grey 3 = .ok (.iload_n 1, 1) := by decide +kernel
theorem eL_grey_3 : dec cL_grey 3 (.iload_n 1) 1 4 := ⟨dL_grey_3, rfl⟩
theorem dL_grey_4 : decode cL_grey 4 = .ok (.iload_n 2, 1) := by decide +kernel
theorem eL_grey_4 : dec cL_grey 4 (.iload_n 2) 1 5 := ⟨dL_grey_4, rfl⟩
theorem dL_grey_5 : decode cL_grey 5 = .ok (.invokevirtual 19, 3) := by decide +kernel
theorem eL_grey_5 : dec cL_grey 5 (.invokevirtual 19) 3 8 := ⟨dL_grey_5, rfl⟩
theorem dL_grey_8 : decode cL_grey 8 = .ok (.i2l, 1) := by decide +kernel
theorem eL_grey_8 : dec cL_grey 8 .i2l 1 9 := ⟨dL_grey_8, rfl⟩
theorem dL_grey_9 : decode cL_grey 9 = .ok (.lastore, 1) := by decide +kernel
theorem eL_grey_9 : dec cL_grey 9 .lastore 1 10 := ⟨dL_grey_9, rfl⟩
theorem dL_grey_10 : decode cL_grey 10 = .ok (.goto 7, 3) := by decide +kernel
theorem eL_grey_10 : dec cL_grey 10 (.goto 7) 3 13 := ⟨dL_grey_10, rfl⟩
theorem dL_grey_13 : decode cL_grey 13 = .ok (.astore 4, 2) := by decide +kernel
theorem eL_grey_13 : dec cL_grey 13 (.astore 4) 2 15 := ⟨dL_grey_13, rfl⟩
theorem dL_grey_15 : decode cL_grey 15 = .ok (.iconst 1, 1) := by decide +kernel
theorem eL_grey_15 : dec cL_grey 15 (.iconst 1) 1 16 := ⟨dL_grey_15, rfl⟩
theorem dL_grey_16 : decode cL_grey 16 = .ok (.ireturn, 1) := by decide +kernel
theorem eL_grey_16 : dec cL_grey 16 .ireturn 1 17 := ⟨dL_grey_16, rfl⟩
theorem dL_grey_17 : decode cL_grey 17 = .ok (.iconst 0, 1) := by decide +kernel
theorem eL_grey_17 : dec cL_grey 17 (.iconst 0) 1 18 := ⟨dL_grey_17, rfl⟩
theorem dL_grey_18 : decode cL_grey 18 = .ok (.ireturn, 1) := by decide +kernel
theorem eL_grey_18 : dec cL_grey 18 .ireturn 1 19 := ⟨dL_grey_18, rfl⟩
set_option maxRecDepth 20000 in
theorem ggL_law_L_cell : GoodIn wsL_law wsL_cell := goodIn_r _ [10] (by decide +kernel) (by decide +kernel)
set_option maxRecDepth 20000 in
theorem gL_law_L_cell : GoodIn wsL_law (va_wsS RL 23 yL_cell wsL_cell) := goodIn_app (goodIn_of _ (by decide +kernel)) ggL_law_L_cell
set_option maxRecDepth 20000 in
theorem ggL_law_X0_init : GoodIn wsL_law wsX0_init := goodIn_r _ [13, 14, 15, 16, 17, 18, 19, 20, 21, 22, 23, 24, 25, 26, 27, 28, 29, 30, 31, 32, 33, 34, 35, 36, 37, 38, 39, 40, 41, 42, 325, 326, 327, 328, 329, 330, 331, 332, 333, 334, 335, 336, 337, 338, 339, 340] (by decide +kernel) (by decide +kernel)
set_option maxRecDepth 20000 in
theorem gL_law_X0_init : GoodIn wsL_law (wsX0_init) := ggL_law_X0_init
set_option maxRecDepth 20000 in
theorem ggL_law_X1_init : GoodIn wsL_law wsX1_init := goodIn_r _ [45, 46, 15, 16, 29, 47, 48, 49, 50, 51, 52, 26, 53, 54, 55, 56, 57, 341, 342, 343, 344, 345, 346, 347, 348, 349, 350, 351, 352, 353, 354, 355] (by decide +kernel) (by decide +kernel)
set_option maxRecDepth 20000 in
theorem gL_law_X1_init : GoodIn wsL_law (wsX1_init) := ggL_law_X1_init
set_option maxRecDepth 20000 in
theorem ggL_law_L_put : GoodIn wsL_law wsL_put := goodIn_r _ [60, 61, 62, 63, 2, 64, 65, 66, 67, 27, 24, 68, 69, 70, 71, 25, 356, 357, 358, 359, 360, 361, 325, 326, 327, 328, 329, 330, 331, 332, 333, 334, 335, 336, 337, 338, 339, 340] (by decide +kernel) (by decide +kernel)
set_option maxRecDepth 20000 in
theorem gL_law_L_put : GoodIn wsL_law (va_wsS RL 35 yL_put wsL_put) := goodIn_app (goodIn_of _ (by decide +kernel)) ggL_law_L_put
set_option maxRecDepth 20000 in
theorem ggL_law_X1_put : GoodIn wsL_law wsX1_put := goodIn_r _ [75, 47, 55, 76, 77, 78, 5, 79, 56, 80, 81, 82, 83, 84, 341, 342, 343, 344, 345, 346, 347, 348, 349, 350, 351, 352, 353, 354, 355] (by decide +kernel) (by decide +kernel)
set_option maxRecDepth 20000 in
theorem gL_law_X1_put : GoodIn wsL_law (wsV RL 38 RX1 yX1_put wsX1_put) := goodIn_app (goodIn_of _ (by decide +kernel)) ggL_law_X1_put
set_option maxRecDepth 20000 in
theorem ggL_law_X1_thrown : GoodIn wsL_law wsX1_thrown := goodIn_r _ [88, 84, 341, 342, 343, 344, 345, 346, 347, 348, 349, 350, 351, 352, 353, 354, 355] (by decide +kernel) (by decide +kernel)
set_option maxRecDepth 20000 in
theorem gL_law_X1_thrown : GoodIn wsL_law (wsV RL 39 RX1 yX1_thrown wsX1_thrown) := goodIn_app (goodIn_of _ (by decide +kernel)) ggL_law_X1_thrown
set_option maxRecDepth 20000 in
theorem ggL_law_X0_threshold : GoodIn wsL_law wsX0_threshold := goodIn_r _ [92, 93, 94, 95, 2, 96, 30, 27, 31, 97, 98, 41, 99, 100, 101, 102, 103, 104, 105, 106, 107, 325, 326, 327, 328, 329, 330, 331, 332, 333, 334, 335, 336, 337, 338, 339, 340] (by decide +kernel) (by decide +kernel)
set_option maxRecDepth 20000 in
theorem gL_law_X0_threshold : GoodIn wsL_law (wsV RL 43 RX0 yX0_threshold wsX0_threshold) := goodIn_app (goodIn_of _ (by decide +kernel)) ggL_law_X0_threshold
set_option maxRecDepth 20000 in
theorem ggL_law_X1_threshold : GoodIn wsL_law wsX1_threshold := goodIn_r _ [111, 84, 112, 113, 114, 5, 115, 49, 57, 47, 116, 117, 118, 119, 341, 342, 343, 344, 345, 346, 347, 348, 349, 350, 351, 352, 353, 354, 355] (by decide +kernel) (by decide +kernel)
set_option maxRecDepth 20000 in
theorem gL_law_X1_threshold : GoodIn wsL_law (wsV RL 46 RX1 yX1_threshold wsX1_threshold) := goodIn_app (goodIn_of _ (by decide +kernel)) ggL_law_X1_threshold
set_option maxRecDepth 20000 in
theorem ggL_law_X0_parts : GoodIn wsL_law wsX0_parts := goodIn_r _ [123, 124, 33, 125, 126, 127, 128, 2, 129, 27, 130, 90, 91, 92, 93, 94, 95, 96, 30, 31, 97, 98, 41, 99, 100, 101, 102, 103, 104, 105, 106, 107, 131, 132, 133, 134, 135, 136, 137, 138, 35, 24, 139, 140, 141, 142, 143, 144, 145, 146, 21, 22, 19, 23, 25, 17, 18, 20, 147, 148, 149, 150, 36, 325, 326, 327, 328, 329, 330, 331, 332, 333, 334, 335, 336, 337, 338, 339, 340] (by decide +kernel) (by decide +kernel)
set_option maxRecDepth 20000 in
theorem gL_law_X0_parts : GoodIn wsL_law (wsV RL 47 RX0 yX0_parts wsX0_parts) := goodIn_app (goodIn_of _ (by decide +kernel)) ggL_law_X0_parts
set_option maxRecDepth 20000 in
theorem ggL_law_X1_parts : GoodIn wsL_law wsX1_parts := goodIn_r _ [154, 84, 57, 50, 48, 155, 156, 157, 158, 5, 159, 47, 112, 113, 114, 115, 49, 116, 117, 118, 119, 160, 161, 162, 163, 164, 165, 166, 167, 55, 76, 77, 78, 79, 56, 168, 169, 170, 171, 172, 173, 174, 175, 52, 341, 342, 343, 344, 345, 346, 347, 348, 349, 350, 351, 352, 353, 354, 355] (by decide +kernel) (by decide +kernel)
set_option maxRecDepth 20000 in
theorem gL_law_X1_parts : GoodIn wsL_law (wsV RL 50 RX1 yX1_parts wsX1_parts) := goodIn_app (goodIn_of _ (by decide +kernel)) ggL_law_X1_parts
set_option maxRecDepth 20000 in
theorem ggL_law_X0_part : GoodIn wsL_law wsX0_part := goodIn_r _ [179, 124, 36, 325, 326, 327, 328, 329, 330, 331, 332, 333, 334, 335, 336, 337, 338, 339, 340] (by decide +kernel) (by decide +kernel)
set_option maxRecDepth 20000 in
theorem gL_law_X0_part : GoodIn wsL_law (wsV RL 51 RX0 yX0_part wsX0_part) := goodIn_app (goodIn_of _ (by decide +kernel)) ggL_law_X0_part
set_option maxRecDepth 20000 in
theorem ggL_law_X1_part : GoodIn wsL_law wsX1_part := goodIn_r _ [183, 84, 155, 52, 341, 342, 343, 344, 345, 346, 347, 348, 349, 350, 351, 352, 353, 354, 355] (by decide +kernel) (by decide +kernel)
set_option maxRecDepth 20000 in
theorem gL_law_X1_part : GoodIn wsL_law (wsV RL 54 RX1 yX1_part wsX1_part) := goodIn_app (goodIn_of _ (by decide +kernel)) ggL_law_X1_part
set_option maxRecDepth 20000 in
theorem ggL_law_X0_skew : GoodIn wsL_law wsX0_skew := goodIn_r _ [187, 126, 127, 128, 2, 129, 27, 33, 130, 90, 91, 92, 93, 94, 95, 96, 30, 31, 97, 98, 41, 99, 100, 101, 102, 103, 104, 105, 106, 107, 131, 132, 133, 134, 188, 189, 190, 191, 34, 24, 25, 192, 193, 194, 195, 196, 197, 198, 199, 200, 201, 202, 325, 326, 327, 328, 329, 330, 331, 332, 333, 334, 335, 336, 337, 338, 339, 340] (by decide +kernel) (by decide +kernel)
set_option maxRecDepth 20000 in
theorem gL_law_X0_skew : GoodIn wsL_law (wsV RL 55 RX0 yX0_skew wsX0_skew) := goodIn_app (goodIn_of _ (by decide +kernel)) ggL_law_X0_skew
set_option maxRecDepth 20000 in
theorem ggL_law_X1_skew : GoodIn wsL_law wsX1_skew := goodIn_r _ [206, 84, 56, 49, 57, 55, 48, 156, 157, 158, 5, 159, 47, 112, 113, 114, 115, 116, 117, 118, 119, 160, 161, 162, 163, 207, 208, 209, 210, 341, 342, 343, 344, 345, 346, 347, 348, 349, 350, 351, 352, 353, 354, 355] (by decide +kernel) (by decide +kernel)
set_option maxRecDepth 20000 in
theorem gL_law_X1_skew : GoodIn wsL_law (wsV RL 58 RX1 yX1_skew wsX1_skew) := goodIn_app (goodIn_of _ (by decide +kernel)) ggL_law_X1_skew
set_option maxRecDepth 20000 in
theorem ggL_law_X0_turn : GoodIn wsL_law wsX0_turn := goodIn_r _ [214, 24, 25, 28, 27, 192, 193, 194, 2, 195, 196, 197, 198, 199, 200, 201, 202, 215, 216, 217, 218, 325, 326, 327, 328, 329, 330, 331, 332, 333, 334, 335, 336, 337, 338, 339, 340] (by decide +kernel) (by decide +kernel)
set_option maxRecDepth 20000 in
theorem gL_law_X0_turn : GoodIn wsL_law (wsV RL 59 RX0 yX0_turn wsX0_turn) := goodIn_app (goodIn_of _ (by decide +kernel)) ggL_law_X0_turn
set_option maxRecDepth 20000 in
theorem ggL_law_X1_turn : GoodIn wsL_law wsX1_turn := goodIn_r _ [222, 84, 57, 48, 55, 47, 207, 208, 209, 5, 210, 56, 223, 224, 225, 226, 341, 342, 343, 344, 345, 346, 347, 348, 349, 350, 351, 352, 353, 354, 355] (by decide +kernel) (by decide +kernel)
set_option maxRecDepth 20000 in
theorem gL_law_X1_turn : GoodIn wsL_law (wsV RL 63 RX1 yX1_turn wsX1_turn) := goodIn_app (goodIn_of _ (by decide +kernel)) ggL_law_X1_turn
set_option maxRecDepth 20000 in
theorem ggL_law_X0_pack : GoodIn wsL_law wsX0_pack := goodIn_r _ [230, 231, 27, 232, 233, 234, 2, 235, 37, 325, 326, 327, 328, 329, 330, 331, 332, 333, 334, 335, 336, 337, 338, 339, 340] (by decide +kernel) (by decide +kernel)
set_option maxRecDepth 20000 in
theorem gL_law_X0_pack : GoodIn wsL_law (wsV RL 64 RX0 yX0_pack wsX0_pack) := goodIn_app (goodIn_of _ (by decide +kernel)) ggL_law_X0_pack
set_option maxRecDepth 20000 in
theorem ggL_law_X1_pack : GoodIn wsL_law wsX1_pack := goodIn_r _ [239, 84, 240, 57, 47, 53, 341, 342, 343, 344, 345, 346, 347, 348, 349, 350, 351, 352, 353, 354, 355] (by decide +kernel) (by decide +kernel)
set_option maxRecDepth 20000 in
theorem gL_law_X1_pack : GoodIn wsL_law (wsV RL 67 RX1 yX1_pack wsX1_pack) := goodIn_app (goodIn_of _ (by decide +kernel)) ggL_law_X1_pack
set_option maxRecDepth 20000 in
theorem ggL_law_L_octet : GoodIn wsL_law wsL_octet := goodIn_r _ [243, 244, 245, 246, 2, 247, 231, 65, 66, 67, 37, 325, 326, 327, 328, 329, 330, 331, 332, 333, 334, 335, 336, 337, 338, 339, 340, 356, 357, 358, 359, 360, 361] (by decide +kernel) (by decide +kernel)
set_option maxRecDepth 20000 in
theorem gL_law_L_octet : GoodIn wsL_law (va_wsS RL 68 yL_octet wsL_octet) := goodIn_app (goodIn_of _ (by decide +kernel)) ggL_law_L_octet
set_option maxRecDepth 20000 in
theorem ggL_law_X1_octet : GoodIn wsL_law wsX1_octet := goodIn_r _ [251, 240, 53, 80, 81, 82, 5, 83, 84, 341, 342, 343, 344, 345, 346, 347, 348, 349, 350, 351, 352, 353, 354, 355] (by decide +kernel) (by decide +kernel)
set_option maxRecDepth 20000 in
theorem gL_law_X1_octet : GoodIn wsL_law (wsV RL 71 RX1 yX1_octet wsX1_octet) := goodIn_app (goodIn_of _ (by decide +kernel)) ggL_law_X1_octet
set_option maxRecDepth 20000 in
theorem ggL_law_X0_add : GoodIn wsL_law wsX0_add := goodIn_r _ [255, 256, 38, 325, 326, 327, 328, 329, 330, 331, 332, 333, 334, 335, 336, 337, 338, 339, 340] (by decide +kernel) (by decide +kernel)
set_option maxRecDepth 20000 in
theorem gL_law_X0_add : GoodIn wsL_law (wsV RL 72 RX0 yX0_add wsX0_add) := goodIn_app (goodIn_of _ (by decide +kernel)) ggL_law_X0_add
set_option maxRecDepth 20000 in
theorem ggL_law_X1_add : GoodIn wsL_law wsX1_add := goodIn_r _ [260, 84, 261, 54, 341, 342, 343, 344, 345, 346, 347, 348, 349, 350, 351, 352, 353, 354, 355] (by decide +kernel) (by decide +kernel)
set_option maxRecDepth 20000 in
theorem gL_law_X1_add : GoodIn wsL_law (wsV RL 76 RX1 yX1_add wsX1_add) := goodIn_app (goodIn_of _ (by decide +kernel)) ggL_law_X1_add
set_option maxRecDepth 20000 in
theorem ggL_law_X0_unpack : GoodIn wsL_law wsX0_unpack := goodIn_r _ [265, 256, 266, 267, 268, 2, 269, 38, 28, 215, 216, 217, 218, 27, 325, 326, 327, 328, 329, 330, 331, 332, 333, 334, 335, 336, 337, 338, 339, 340] (by decide +kernel) (by decide +kernel)
set_option maxRecDepth 20000 in
theorem gL_law_X0_unpack : GoodIn wsL_law (wsV RL 77 RX0 yX0_unpack wsX0_unpack) := goodIn_app (goodIn_of _ (by decide +kernel)) ggL_law_X0_unpack
set_option maxRecDepth 20000 in
theorem ggL_law_X1_unpack : GoodIn wsL_law wsX1_unpack := goodIn_r _ [273, 84, 261, 57, 54, 48, 223, 224, 225, 5, 226, 47, 341, 342, 343, 344, 345, 346, 347, 348, 349, 350, 351, 352, 353, 354, 355] (by decide +kernel) (by decide +kernel)
set_option maxRecDepth 20000 in
theorem gL_law_X1_unpack : GoodIn wsL_law (wsV RL 80 RX1 yX1_unpack wsX1_unpack) := goodIn_app (goodIn_of _ (by decide +kernel)) ggL_law_X1_unpack
set_option maxRecDepth 20000 in
theorem ggL_law_X0_side : GoodIn wsL_law wsX0_side := goodIn_r _ [277, 278, 279, 280, 2, 281, 25, 24, 28, 27, 282, 283, 284, 285, 286, 287, 288, 289, 290, 291, 292, 293, 39, 40, 41, 42, 294, 295, 296, 297, 215, 216, 217, 218, 325, 326, 327, 328, 329, 330, 331, 332, 333, 334, 335, 336, 337, 338, 339, 340] (by decide +kernel) (by decide +kernel)
set_option maxRecDepth 20000 in
theorem gL_law_X0_side : GoodIn wsL_law (wsV RL 81 RX0 yX0_side wsX0_side) := goodIn_app (goodIn_of _ (by decide +kernel)) ggL_law_X0_side
set_option maxRecDepth 20000 in
theorem ggL_law_X1_side : GoodIn wsL_law wsX1_side := goodIn_r _ [301, 84, 57, 55, 48, 47, 56, 302, 303, 304, 5, 305, 223, 224, 225, 226, 341, 342, 343, 344, 345, 346, 347, 348, 349, 350, 351, 352, 353, 354, 355] (by decide +kernel) (by decide +kernel)
set_option maxRecDepth 20000 in
theorem gL_law_X1_side : GoodIn wsL_law (wsV RL 84 RX1 yX1_side wsX1_side) := goodIn_app (goodIn_of _ (by decide +kernel)) ggL_law_X1_side
set_option maxRecDepth 20000 in
theorem ggL_law_X0_inverted : GoodIn wsL_law wsX0_inverted := goodIn_r _ [309, 130, 90, 91, 2, 92, 93, 94, 95, 96, 30, 27, 31, 97, 98, 41, 99, 100, 101, 102, 103, 104, 105, 106, 107, 131, 132, 133, 134, 325, 326, 327, 328, 329, 330, 331, 332, 333, 334, 335, 336, 337, 338, 339, 340] (by decide +kernel) (by decide +kernel)
set_option maxRecDepth 20000 in
theorem gL_law_X0_inverted : GoodIn wsL_law (wsV RL 85 RX0 yX0_inverted wsX0_inverted) := goodIn_app (goodIn_of _ (by decide +kernel)) ggL_law_X0_inverted
set_option maxRecDepth 20000 in
theorem ggL_law_X1_inverted : GoodIn wsL_law wsX1_inverted := goodIn_r _ [313, 84, 112, 113, 114, 5, 115, 49, 57, 47, 116, 117, 118, 119, 160, 161, 162, 163, 341, 342, 343, 344, 345, 346, 347, 348, 349, 350, 351, 352, 353, 354, 355] (by decide +kernel) (by decide +kernel)
set_option maxRecDepth 20000 in
theorem gL_law_X1_inverted : GoodIn wsL_law (wsV RL 89 RX1 yX1_inverted wsX1_inverted) := goodIn_app (goodIn_of _ (by decide +kernel)) ggL_law_X1_inverted
set_option maxRecDepth 20000 in
theorem ggL_law_L_grey : GoodIn wsL_law wsL_grey := goodIn_r _ [316, 317, 318, 319, 2, 320, 65, 66, 67, 27, 24, 68, 69, 70, 71, 25, 356, 357, 358, 359, 360, 361, 325, 326, 327, 328, 329, 330, 331, 332, 333, 334, 335, 336, 337, 338, 339, 340] (by decide +kernel) (by decide +kernel)
set_option maxRecDepth 20000 in
theorem gL_law_L_grey : GoodIn wsL_law (va_wsS RL 90 yL_grey wsL_grey) := goodIn_app (goodIn_of _ (by decide +kernel)) ggL_law_L_grey
set_option maxRecDepth 20000 in
theorem ggL_law_X1_grey : GoodIn wsL_law wsX1_grey := goodIn_r _ [324, 47, 55, 76, 77, 78, 5, 79, 56, 80, 81, 82, 83, 84, 341, 342, 343, 344, 345, 346, 347, 348, 349, 350, 351, 352, 353, 354, 355] (by decide +kernel) (by decide +kernel)
set_option maxRecDepth 20000 in
theorem gL_law_X1_grey : GoodIn wsL_law (wsV RL 93 RX1 yX1_grey wsX1_grey) := goodIn_app (goodIn_of _ (by decide +kernel)) ggL_law_X1_grey
theorem dL_law_0 : decode cL_law 0 = .ok (.new 8, 3) := by decide +kernel
theorem eL_law_0 : dec cL_law 0 (.new 8) 3 3 := ⟨dL_law_0, rfl⟩
theorem dL_law_3 : decode cL_law 3 = .ok (.dup, 1) := by decide +kernel
theorem eL_law_3 : dec cL_law 3 .dup 1 4 := ⟨dL_law_3, rfl⟩
theorem dL_law_4 : decode cL_law 4 = .ok (.aload_n 0, 1) := by decide +kernel
theorem eL_law_4 : dec cL_law 4 (.aload_n 0) 1 5 := ⟨dL_law_4, rfl⟩
theorem dL_law_5 : decode cL_law 5 = .ok (.iconst 0, 1) := by decide +kernel
theorem eL_law_5 : dec cL_law 5 (.iconst 0) 1 6 := ⟨dL_law_5, rfl⟩
theorem dL_law_6 : decode cL_law 6 = .ok (.invokestatic 23, 3) := by decide +kernel
theorem eL_law_6 : dec cL_law 6 (.invokestatic 23) 3 9 := ⟨dL_law_6, rfl⟩
theorem dL_law_9 : decode cL_law 9 = .ok (.aload_n 0, 1) := by decide +kernel
theorem eL_law_9 : dec cL_law 9 (.aload_n 0) 1 10 := ⟨dL_law_9, rfl⟩
theorem dL_law_10 : decode cL_law 10 = .ok (.iconst 1, 1) := by decide +kernel
theorem eL_law_10 : dec cL_law 10 (.iconst 1) 1 11 := ⟨dL_law_10, rfl⟩
theorem dL_law_11 : decode cL_law 11 = .ok (.invokestatic 23, 3) := by decide +kernel
theorem eL_law_11 : dec cL_law 11 (.invokestatic 23) 3 14 := ⟨dL_law_11, rfl⟩
theorem dL_law_14 : decode cL_law 14 = .ok (.invokespecial 29, 3) := by decide +kernel
theorem eL_law_14 : dec cL_law 14 (.invokespecial 29) 3 17 := ⟨dL_law_14, rfl⟩
theorem dL_law_17 : decode cL_law 17 = .ok (.astore_n 1, 1) := by decide +kernel
theorem eL_law_17 : dec cL_law 17 (.astore_n 1) 1 18 := ⟨dL_law_17, rfl⟩
theorem dL_law_18 : decode cL_law 18 = .ok (.new 32, 3) := by decide +kernel
theorem eL_law_18 : dec cL_law 18 (.new 32) 3 21 := ⟨dL_law_18, rfl⟩
theorem dL_law_21 : decode cL_law 21 = .ok (.dup, 1) := by decide +kernel
theorem eL_law_21 : dec cL_law 21 .dup 1 22 := ⟨dL_law_21, rfl⟩
theorem dL_law_22 : decode cL_law 22 = .ok (.aload_n 0, 1) := by decide +kernel
theorem eL_law_22 : dec cL_law 22 (.aload_n 0) 1 23 := ⟨dL_law_22, rfl⟩
theorem dL_law_23 : decode cL_law 23 = .ok (.iconst 0, 1) := by decide +kernel
theorem eL_law_23 : dec cL_law 23 (.iconst 0) 1 24 := ⟨dL_law_23, rfl⟩
theorem dL_law_24 : decode cL_law 24 = .ok (.invokestatic 23, 3) := by decide +kernel
theorem eL_law_24 : dec cL_law 24 (.invokestatic 23) 3 27 := ⟨dL_law_24, rfl⟩
theorem dL_law_27 : decode cL_law 27 = .ok (.aload_n 0, 1) := by decide +kernel
theorem eL_law_27 : dec cL_law 27 (.aload_n 0) 1 28 := ⟨dL_law_27, rfl⟩
theorem dL_law_28 : decode cL_law 28 = .ok (.iconst 1, 1) := by decide +kernel
theorem eL_law_28 : dec cL_law 28 (.iconst 1) 1 29 := ⟨dL_law_28, rfl⟩
theorem dL_law_29 : decode cL_law 29 = .ok (.invokestatic 23, 3) := by decide +kernel
theorem eL_law_29 : dec cL_law 29 (.invokestatic 23) 3 32 := ⟨dL_law_29, rfl⟩
theorem dL_law_32 : decode cL_law 32 = .ok (.invokespecial 34, 3) := by decide +kernel
theorem eL_law_32 : dec cL_law 32 (.invokespecial 34) 3 35 := ⟨dL_law_32, rfl⟩
theorem dL_law_35 : decode cL_law 35 = .ok (.astore_n 2, 1) := by decide +kernel
theorem eL_law_35 : dec cL_law 35 (.astore_n 2) 1 36 := ⟨dL_law_35, rfl⟩
theorem dL_law_36 : decode cL_law 36 = .ok (.iconst 1, 1) := by decide +kernel
theorem eL_law_36 : dec cL_law 36 (.iconst 1) 1 37 := ⟨dL_law_36, rfl⟩
theorem dL_law_37 : decode cL_law 37 = .ok (.newarray .long, 2) := by decide +kernel
theorem eL_law_37 : dec cL_law 37 (.newarray .long) 2 39 := ⟨dL_law_37, rfl⟩
theorem dL_law_39 : decode cL_law 39 = .ok (.astore_n 3, 1) := by decide +kernel
theorem eL_law_39 : dec cL_law 39 (.astore_n 3) 1 40 := ⟨dL_law_39, rfl⟩
theorem dL_law_40 : decode cL_law 40 = .ok (.iconst 2, 1) := by decide +kernel
theorem eL_law_40 : dec cL_law 40 (.iconst 2) 1 41 := ⟨dL_law_40, rfl⟩
theorem dL_law_41 : decode cL_law 41 = .ok (.istore 4, 2) := by decide +kernel
theorem eL_law_41 : dec cL_law 41 (.istore 4) 2 43 := ⟨dL_law_41, rfl⟩
theorem dL_law_43 : decode cL_law 43 = .ok (.iload 4, 2) := by decide +kernel
theorem eL_law_43 : dec cL_law 43 (.iload 4) 2 45 := ⟨dL_law_43, rfl⟩
theorem dL_law_45 : decode cL_law 45 = .ok (.aload_n 0, 1) := by decide +kernel
theorem eL_law_45 : dec cL_law 45 (.aload_n 0) 1 46 := ⟨dL_law_45, rfl⟩
theorem dL_law_46 : decode cL_law 46 = .ok (.arraylength, 1) := by decide +kernel
theorem eL_law_46 : dec cL_law 46 .arraylength 1 47 := ⟨dL_law_46, rfl⟩
theorem dL_law_47 : decode cL_law 47 = .ok (.iconst 4, 1) := by decide +kernel
theorem eL_law_47 : dec cL_law 47 (.iconst 4) 1 48 := ⟨dL_law_47, rfl⟩
theorem dL_law_48 : decode cL_law 48 = .ok (.isub, 1) := by decide +kernel
theorem eL_law_48 : dec cL_law 48 .isub 1 49 := ⟨dL_law_48, rfl⟩
theorem dL_law_49 : decode cL_law 49 = .ok (.if_icmp .gt 457, 3) := by decide +kernel
theorem eL_law_49 : dec cL_law 49 (.if_icmp .gt 457) 3 52 := ⟨dL_law_49, rfl⟩
theorem dL_law_52 : decode cL_law 52 = .ok (.aload_n 0, 1) := by decide +kernel
theorem eL_law_52 : dec cL_law 52 (.aload_n 0) 1 53 := ⟨dL_law_52, rfl⟩
theorem dL_law_53 : decode cL_law 53 = .ok (.iload 4, 2) := by decide +kernel
theorem eL_law_53 : dec cL_law 53 (.iload 4) 2 55 := ⟨dL_law_53, rfl⟩
theorem dL_law_55 : decode cL_law 55 = .ok (.iaload, 1) := by decide +kernel
theorem eL_law_55 : dec cL_law 55 .iaload 1 56 := ⟨dL_law_55, rfl⟩
theorem dL_law_56 : decode cL_law 56 = .ok (.bipush 15, 2) := by decide +kernel
theorem eL_law_56 : dec cL_law 56 (.bipush 15) 2 58 := ⟨dL_law_56, rfl⟩
theorem dL_law_58 : decode cL_law 58 = .ok (.iand, 1) := by decide +kernel
theorem eL_law_58 : dec cL_law 58 .iand 1 59 := ⟨dL_law_58, rfl⟩
theorem dL_law_59 : decode cL_law 59 = .ok (.tableswitch 441 0 12 #[65, 127, 140, 153, 190, 203, 228, 241, 297, 322, 335, 360, 373], 65) := by decide +kernel
theorem eL_law_59 : dec cL_law 59 (.tableswitch 441 0 12 #[65, 127, 140, 153, 190, 203, 228, 241, 297, 322, 335, 360, 373]) 65 124 := ⟨dL_law_59, rfl⟩
theorem dL_law_124 : decode cL_law 124 = .ok (.aload_n 1, 1) := by decide +kernel
theorem eL_law_124 : dec cL_law 124 (.aload_n 1) 1 125 := ⟨dL_law_124, rfl⟩
theorem dL_law_125 : decode cL_law 125 = .ok (.aload_n 0, 1) := by decide +kernel
theorem eL_law_125 : dec cL_law 125 (.aload_n 0) 1 126 := ⟨dL_law_125, rfl⟩
theorem dL_law_126 : decode cL_law 126 = .ok (.iload 4, 2) := by decide +kernel
theorem eL_law_126 : dec cL_law 126 (.iload 4) 2 128 := ⟨dL_law_126, rfl⟩
theorem dL_law_128 : decode cL_law 128 = .ok (.iconst 1, 1) := by decide +kernel
theorem eL_law_128 : dec cL_law 128 (.iconst 1) 1 129 := ⟨dL_law_128, rfl⟩
theorem dL_law_129 : decode cL_law 129 = .ok (.iadd, 1) := by decide +kernel
theorem eL_law_129 : dec cL_law 129 .iadd 1 130 := ⟨dL_law_129, rfl⟩
theorem dL_law_130 : decode cL_law 130 = .ok (.iaload, 1) := by decide +kernel
theorem eL_law_130 : dec cL_law 130 .iaload 1 131 := ⟨dL_law_130, rfl⟩
theorem dL_law_131 : decode cL_law 131 = .ok (.aload_n 0, 1) := by decide +kernel
theorem eL_law_131 : dec cL_law 131 (.aload_n 0) 1 132 := ⟨dL_law_131, rfl⟩
theorem dL_law_132 : decode cL_law 132 = .ok (.iload 4, 2) := by decide +kernel
theorem eL_law_132 : dec cL_law 132 (.iload 4) 2 134 := ⟨dL_law_132, rfl⟩
theorem dL_law_134 : decode cL_law 134 = .ok (.iconst 2, 1) := by decide +kernel
theorem eL_law_134 : dec cL_law 134 (.iconst 2) 1 135 := ⟨dL_law_134, rfl⟩
theorem dL_law_135 : decode cL_law 135 = .ok (.iadd, 1) := by decide +kernel
theorem eL_law_135 : dec cL_law 135 .iadd 1 136 := ⟨dL_law_135, rfl⟩
theorem dL_law_136 : decode cL_law 136 = .ok (.iaload, 1) := by decide +kernel
theorem eL_law_136 : dec cL_law 136 .iaload 1 137 := ⟨dL_law_136, rfl⟩
theorem dL_law_137 : decode cL_law 137 = .ok (.aload_n 0, 1) := by decide +kernel
theorem eL_law_137 : dec cL_law 137 (.aload_n 0) 1 138 := ⟨dL_law_137, rfl⟩
theorem dL_law_138 : decode cL_law 138 = .ok (.iload 4, 2) := by decide +kernel
theorem eL_law_138 : dec cL_law 138 (.iload 4) 2 140 := ⟨dL_law_138, rfl⟩
theorem dL_law_140 : decode cL_law 140 = .ok (.iconst 3, 1) := by decide +kernel
theorem eL_law_140 : dec cL_law 140 (.iconst 3) 1 141 := ⟨dL_law_140, rfl⟩
theorem dL_law_141 : decode cL_law 141 = .ok (.iadd, 1) := by decide +kernel
theorem eL_law_141 : dec cL_law 141 .iadd 1 142 := ⟨dL_law_141, rfl⟩
theorem dL_law_142 : decode cL_law 142 = .ok (.iaload, 1) := by decide +kernel
theorem eL_law_142 : dec cL_law 142 .iaload 1 143 := ⟨dL_law_142, rfl⟩
theorem dL_law_143 : decode cL_law 143 = .ok (.i2b, 1) := by decide +kernel
theorem eL_law_143 : dec cL_law 143 .i2b 1 144 := ⟨dL_law_143, rfl⟩
theorem dL_law_144 : decode cL_law 144 = .ok (.invokestatic 35, 3) := by decide +kernel
theorem eL_law_144 : dec cL_law 144 (.invokestatic 35) 3 147 := ⟨dL_law_144, rfl⟩
theorem dL_law_147 : decode cL_law 147 = .ok (.istore 5, 2) := by decide +kernel
theorem eL_law_147 : dec cL_law 147 (.istore 5) 2 149 := ⟨dL_law_147, rfl⟩
theorem dL_law_149 : decode cL_law 149 = .ok (.aload_n 2, 1) := by decide +kernel
theorem eL_law_149 : dec cL_law 149 (.aload_n 2) 1 150 := ⟨dL_law_149, rfl⟩
theorem dL_law_150 : decode cL_law 150 = .ok (.aload_n 0, 1) := by decide +kernel
theorem eL_law_150 : dec cL_law 150 (.aload_n 0) 1 151 := ⟨dL_law_150, rfl⟩
theorem dL_law_151 : decode cL_law 151 = .ok (.iload 4, 2) := by decide +kernel
theorem eL_law_151 : dec cL_law 151 (.iload 4) 2 153 := ⟨dL_law_151, rfl⟩
theorem dL_law_153 : decode cL_law 153 = .ok (.iconst 1, 1) := by decide +kernel
theorem eL_law_153 : dec cL_law 153 (.iconst 1) 1 154 := ⟨dL_law_153, rfl⟩
theorem dL_law_154 : decode cL_law 154 = .ok (.iadd, 1) := by decide +kernel
theorem eL_law_154 : dec cL_law 154 .iadd 1 155 := ⟨dL_law_154, rfl⟩
theorem dL_law_155 : decode cL_law 155 = .ok (.iaload, 1) := by decide +kernel
theorem eL_law_155 : dec cL_law 155 .iaload 1 156 := ⟨dL_law_155, rfl⟩
theorem dL_law_156 : decode cL_law 156 = .ok (.aload_n 0, 1) := by decide +kernel
theorem eL_law_156 : dec cL_law 156 (.aload_n 0) 1 157 := ⟨dL_law_156, rfl⟩
theorem dL_law_157 : decode cL_law 157 = .ok (.iload 4, 2) := by decide +kernel
theorem eL_law_157 : dec cL_law 157 (.iload 4) 2 159 := ⟨dL_law_157, rfl⟩
theorem dL_law_159 : decode cL_law 159 = .ok (.iconst 2, 1) := by decide +kernel
theorem eL_law_159 : dec cL_law 159 (.iconst 2) 1 160 := ⟨dL_law_159, rfl⟩
theorem dL_law_160 : decode cL_law 160 = .ok (.iadd, 1) := by decide +kernel
theorem eL_law_160 : dec cL_law 160 .iadd 1 161 := ⟨dL_law_160, rfl⟩
theorem dL_law_161 : decode cL_law 161 = .ok (.iaload, 1) := by decide +kernel
theorem eL_law_161 : dec cL_law 161 .iaload 1 162 := ⟨dL_law_161, rfl⟩
theorem dL_law_162 : decode cL_law 162 = .ok (.aload_n 0, 1) := by decide +kernel
theorem eL_law_162 : dec cL_law 162 (.aload_n 0) 1 163 := ⟨dL_law_162, rfl⟩
theorem dL_law_163 : decode cL_law 163 = .ok (.iload 4, 2) := by decide +kernel
theorem eL_law_163 : dec cL_law 163 (.iload 4) 2 165 := ⟨dL_law_163, rfl⟩
theorem dL_law_165 : decode cL_law 165 = .ok (.iconst 3, 1) := by decide +kernel
theorem eL_law_165 : dec cL_law 165 (.iconst 3) 1 166 := ⟨dL_law_165, rfl⟩
theorem dL_law_166 : decode cL_law 166 = .ok (.iadd, 1) := by decide +kernel
theorem eL_law_166 : dec cL_law 166 .iadd 1 167 := ⟨dL_law_166, rfl⟩
theorem dL_law_167 : decode cL_law 167 = .ok (.iaload, 1) := by decide +kernel
theorem eL_law_167 : dec cL_law 167 .iaload 1 168 := ⟨dL_law_167, rfl⟩
theorem dL_law_168 : decode cL_law 168 = .ok (.i2b, 1) := by decide +kernel
theorem eL_law_168 : dec cL_law 168 .i2b 1 169 := ⟨dL_law_168, rfl⟩
theorem dL_law_169 : decode cL_law 169 = .ok (.invokevirtual 38, 3) := by decide +kernel
theorem eL_law_169 : dec cL_law 169 (.invokevirtual 38) 3 172 := ⟨dL_law_169, rfl⟩
theorem dL_law_172 : decode cL_law 172 = .ok (.aload_n 2, 1) := by decide +kernel
theorem eL_law_172 : dec cL_law 172 (.aload_n 2) 1 173 := ⟨dL_law_172, rfl⟩
theorem dL_law_173 : decode cL_law 173 = .ok (.invokevirtual 39, 3) := by decide +kernel
theorem eL_law_173 : dec cL_law 173 (.invokevirtual 39) 3 176 := ⟨dL_law_173, rfl⟩
theorem dL_law_176 : decode cL_law 176 = .ok (.iload 5, 2) := by decide +kernel
theorem eL_law_176 : dec cL_law 176 (.iload 5) 2 178 := ⟨dL_law_176, rfl⟩
theorem dL_law_178 : decode cL_law 178 = .ok (.if_icmp .eq 5, 3) := by decide +kernel
theorem eL_law_178 : dec cL_law 178 (.if_icmp .eq 5) 3 181 := ⟨dL_law_178, rfl⟩
theorem dL_law_181 : decode cL_law 181 = .ok (.iconst 0, 1) := by decide +kernel
theorem eL_law_181 : dec cL_law 181 (.iconst 0) 1 182 := ⟨dL_law_181, rfl⟩
theorem dL_law_182 : decode cL_law 182 = .ok (.ireturn, 1) := by decide +kernel
theorem eL_law_182 : dec cL_law 182 .ireturn 1 183 := ⟨dL_law_182, rfl⟩
theorem dL_law_183 : decode cL_law 183 = .ok (.goto 317, 3) := by decide +kernel
theorem eL_law_183 : dec cL_law 183 (.goto 317) 3 186 := ⟨dL_law_183, rfl⟩
theorem dL_law_186 : decode cL_law 186 = .ok (.aload_n 1, 1) := by decide +kernel
theorem eL_law_186 : dec cL_law 186 (.aload_n 1) 1 187 := ⟨dL_law_186, rfl⟩
theorem dL_law_187 : decode cL_law 187 = .ok (.invokevirtual 43, 3) := by decide +kernel
theorem eL_law_187 : dec cL_law 187 (.invokevirtual 43) 3 190 := ⟨dL_law_187, rfl⟩
theorem dL_law_190 : decode cL_law 190 = .ok (.aload_n 2, 1) := by decide +kernel
theorem eL_law_190 : dec cL_law 190 (.aload_n 2) 1 191 := ⟨dL_law_190, rfl⟩
theorem dL_law_191 : decode cL_law 191 = .ok (.invokevirtual 46, 3) := by decide +kernel
theorem eL_law_191 : dec cL_law 191 (.invokevirtual 46) 3 194 := ⟨dL_law_191, rfl⟩
theorem dL_law_194 : decode cL_law 194 = .ok (.if_icmp .eq 306, 3) := by decide +kernel
theorem eL_law_194 : dec cL_law 194 (.if_icmp .eq 306) 3 197 := ⟨dL_law_194, rfl⟩
theorem dL_law_197 : decode cL_law 197 = .ok (.iconst 0, 1) := by decide +kernel
theorem eL_law_197 : dec cL_law 197 (.iconst 0) 1 198 := ⟨dL_law_197, rfl⟩
theorem dL_law_198 : decode cL_law 198 = .ok (.ireturn, 1) := by decide +kernel
theorem eL_law_198 : dec cL_law 198 .ireturn 1 199 := ⟨dL_law_198, rfl⟩
theorem dL_law_199 : decode cL_law 199 = .ok (.aload_n 1, 1) := by decide +kernel
theorem eL_law_199 : dec cL_law 199 (.aload_n 1) 1 200 := ⟨dL_law_199, rfl⟩
theorem dL_law_200 : decode cL_law 200 = .ok (.invokevirtual 47, 3) := by decide +kernel
theorem eL_law_200 : dec cL_law 200 (.invokevirtual 47) 3 203 := ⟨dL_law_200, rfl⟩
theorem dL_law_203 : decode cL_law 203 = .ok (.aload_n 2, 1) := by decide +kernel
theorem eL_law_203 : dec cL_law 203 (.aload_n 2) 1 204 := ⟨dL_law_203, rfl⟩
theorem dL_law_204 : decode cL_law 204 = .ok (.invokevirtual 50, 3) := by decide +kernel
theorem eL_law_204 : dec cL_law 204 (.invokevirtual 50) 3 207 := ⟨dL_law_204, rfl⟩
theorem dL_law_207 : decode cL_law 207 = .ok (.if_icmp .eq 293, 3) := by decide +kernel
theorem eL_law_207 : dec cL_law 207 (.if_icmp .eq 293) 3 210 := ⟨dL_law_207, rfl⟩
theorem dL_law_210 : decode cL_law 210 = .ok (.iconst 0, 1) := by decide +kernel
theorem eL_law_210 : dec cL_law 210 (.iconst 0) 1 211 := ⟨dL_law_210, rfl⟩
theorem dL_law_211 : decode cL_law 211 = .ok (.ireturn, 1) := by decide +kernel
theorem eL_law_211 : dec cL_law 211 .ireturn 1 212 := ⟨dL_law_211, rfl⟩
theorem dL_law_212 : decode cL_law 212 = .ok (.aload_n 1, 1) := by decide +kernel
theorem eL_law_212 : dec cL_law 212 (.aload_n 1) 1 213 := ⟨dL_law_212, rfl⟩
theorem dL_law_213 : decode cL_law 213 = .ok (.aload_n 0, 1) := by decide +kernel
theorem eL_law_213 : dec cL_law 213 (.aload_n 0) 1 214 := ⟨dL_law_213, rfl⟩
theorem dL_law_214 : decode cL_law 214 = .ok (.iload 4, 2) := by decide +kernel
theorem eL_law_214 : dec cL_law 214 (.iload 4) 2 216 := ⟨dL_law_214, rfl⟩
theorem dL_law_216 : decode cL_law 216 = .ok (.iconst 1, 1) := by decide +kernel
theorem eL_law_216 : dec cL_law 216 (.iconst 1) 1 217 := ⟨dL_law_216, rfl⟩
theorem dL_law_217 : decode cL_law 217 = .ok (.iadd, 1) := by decide +kernel
theorem eL_law_217 : dec cL_law 217 .iadd 1 218 := ⟨dL_law_217, rfl⟩
theorem dL_law_218 : decode cL_law 218 = .ok (.iaload, 1) := by decide +kernel
theorem eL_law_218 : dec cL_law 218 .iaload 1 219 := ⟨dL_law_218, rfl⟩
theorem dL_law_219 : decode cL_law 219 = .ok (.aload_n 0, 1) := by decide +kernel
theorem eL_law_219 : dec cL_law 219 (.aload_n 0) 1 220 := ⟨dL_law_219, rfl⟩
theorem dL_law_220 : decode cL_law 220 = .ok (.iload 4, 2) := by decide +kernel
theorem eL_law_220 : dec cL_law 220 (.iload 4) 2 222 := ⟨dL_law_220, rfl⟩
theorem dL_law_222 : decode cL_law 222 = .ok (.iconst 2, 1) := by decide +kernel
theorem eL_law_222 : dec cL_law 222 (.iconst 2) 1 223 := ⟨dL_law_222, rfl⟩
theorem dL_law_223 : decode cL_law 223 = .ok (.iadd, 1) := by decide +kernel
theorem eL_law_223 : dec cL_law 223 .iadd 1 224 := ⟨dL_law_223, rfl⟩
theorem dL_law_224 : decode cL_law 224 = .ok (.iaload, 1) := by decide +kernel
theorem eL_law_224 : dec cL_law 224 .iaload 1 225 := ⟨dL_law_224, rfl⟩
theorem dL_law_225 : decode cL_law 225 = .ok (.invokevirtual 51, 3) := by decide +kernel
theorem eL_law_225 : dec cL_law 225 (.invokevirtual 51) 3 228 := ⟨dL_law_225, rfl⟩
theorem dL_law_228 : decode cL_law 228 = .ok (.aload_n 2, 1) := by decide +kernel
theorem eL_law_228 : dec cL_law 228 (.aload_n 2) 1 229 := ⟨dL_law_228, rfl⟩
theorem dL_law_229 : decode cL_law 229 = .ok (.aload_n 0, 1) := by decide +kernel
theorem eL_law_229 : dec cL_law 229 (.aload_n 0) 1 230 := ⟨dL_law_229, rfl⟩
theorem dL_law_230 : decode cL_law 230 = .ok (.iload 4, 2) := by decide +kernel
theorem eL_law_230 : dec cL_law 230 (.iload 4) 2 232 := ⟨dL_law_230, rfl⟩
theorem dL_law_232 : decode cL_law 232 = .ok (.iconst 1, 1) := by decide +kernel
theorem eL_law_232 : dec cL_law 232 (.iconst 1) 1 233 := ⟨dL_law_232, rfl⟩
theorem dL_law_233 : decode cL_law 233 = .ok (.iadd, 1) := by decide +kernel
theorem eL_law_233 : dec cL_law 233 .iadd 1 234 := ⟨dL_law_233, rfl⟩
theorem dL_law_234 : decode cL_law 234 = .ok (.iaload, 1) := by decide +kernel
theorem eL_law_234 : dec cL_law 234 .iaload 1 235 := ⟨dL_law_234, rfl⟩
theorem dL_law_235 : decode cL_law 235 = .ok (.aload_n 0, 1) := by decide +kernel
theorem eL_law_235 : dec cL_law 235 (.aload_n 0) 1 236 := ⟨dL_law_235, rfl⟩
theorem dL_law_236 : decode cL_law 236 = .ok (.iload 4, 2) := by decide +kernel
theorem eL_law_236 : dec cL_law 236 (.iload 4) 2 238 := ⟨dL_law_236, rfl⟩
theorem dL_law_238 : decode cL_law 238 = .ok (.iconst 2, 1) := by decide +kernel
theorem eL_law_238 : dec cL_law 238 (.iconst 2) 1 239 := ⟨dL_law_238, rfl⟩
theorem dL_law_239 : decode cL_law 239 = .ok (.iadd, 1) := by decide +kernel
theorem eL_law_239 : dec cL_law 239 .iadd 1 240 := ⟨dL_law_239, rfl⟩
theorem dL_law_240 : decode cL_law 240 = .ok (.iaload, 1) := by decide +kernel
theorem eL_law_240 : dec cL_law 240 .iaload 1 241 := ⟨dL_law_240, rfl⟩
theorem dL_law_241 : decode cL_law 241 = .ok (.invokevirtual 54, 3) := by decide +kernel
theorem eL_law_241 : dec cL_law 241 (.invokevirtual 54) 3 244 := ⟨dL_law_241, rfl⟩
theorem dL_law_244 : decode cL_law 244 = .ok (.if_icmp .eq 256, 3) := by decide +kernel
theorem eL_law_244 : dec cL_law 244 (.if_icmp .eq 256) 3 247 := ⟨dL_law_244, rfl⟩
theorem dL_law_247 : decode cL_law 247 = .ok (.iconst 0, 1) := by decide +kernel
theorem eL_law_247 : dec cL_law 247 (.iconst 0) 1 248 := ⟨dL_law_247, rfl⟩
theorem dL_law_248 : decode cL_law 248 = .ok (.ireturn, 1) := by decide +kernel
theorem eL_law_248 : dec cL_law 248 .ireturn 1 249 := ⟨dL_law_248, rfl⟩
theorem dL_law_249 : decode cL_law 249 = .ok (.aload_n 1, 1) := by decide +kernel
theorem eL_law_249 : dec cL_law 249 (.aload_n 1) 1 250 := ⟨dL_law_249, rfl⟩
theorem dL_law_250 : decode cL_law 250 = .ok (.invokevirtual 55, 3) := by decide +kernel
theorem eL_law_250 : dec cL_law 250 (.invokevirtual 55) 3 253 := ⟨dL_law_250, rfl⟩
theorem dL_law_253 : decode cL_law 253 = .ok (.aload_n 2, 1) := by decide +kernel
theorem eL_law_253 : dec cL_law 253 (.aload_n 2) 1 254 := ⟨dL_law_253, rfl⟩
theorem dL_law_254 : decode cL_law 254 = .ok (.invokevirtual 58, 3) := by decide +kernel
theorem eL_law_254 : dec cL_law 254 (.invokevirtual 58) 3 257 := ⟨dL_law_254, rfl⟩
theorem dL_law_257 : decode cL_law 257 = .ok (.if_icmp .eq 243, 3) := by decide +kernel
theorem eL_law_257 : dec cL_law 257 (.if_icmp .eq 243) 3 260 := ⟨dL_law_257, rfl⟩
theorem dL_law_260 : decode cL_law 260 = .ok (.iconst 0, 1) := by decide +kernel
theorem eL_law_260 : dec cL_law 260 (.iconst 0) 1 261 := ⟨dL_law_260, rfl⟩
theorem dL_law_261 : decode cL_law 261 = .ok (.ireturn, 1) := by decide +kernel
theorem eL_law_261 : dec cL_law 261 .ireturn 1 262 := ⟨dL_law_261, rfl⟩
theorem dL_law_262 : decode cL_law 262 = .ok (.aload_n 1, 1) := by decide +kernel
theorem eL_law_262 : dec cL_law 262 (.aload_n 1) 1 263 := ⟨dL_law_262, rfl⟩
theorem dL_law_263 : decode cL_law 263 = .ok (.aload_n 0, 1) := by decide +kernel
theorem eL_law_263 : dec cL_law 263 (.aload_n 0) 1 264 := ⟨dL_law_263, rfl⟩
theorem dL_law_264 : decode cL_law 264 = .ok (.iload 4, 2) := by decide +kernel
theorem eL_law_264 : dec cL_law 264 (.iload 4) 2 266 := ⟨dL_law_264, rfl⟩
theorem dL_law_266 : decode cL_law 266 = .ok (.iconst 1, 1) := by decide +kernel
theorem eL_law_266 : dec cL_law 266 (.iconst 1) 1 267 := ⟨dL_law_266, rfl⟩
theorem dL_law_267 : decode cL_law 267 = .ok (.iadd, 1) := by decide +kernel
theorem eL_law_267 : dec cL_law 267 .iadd 1 268 := ⟨dL_law_267, rfl⟩
theorem dL_law_268 : decode cL_law 268 = .ok (.iaload, 1) := by decide +kernel
theorem eL_law_268 : dec cL_law 268 .iaload 1 269 := ⟨dL_law_268, rfl⟩
theorem dL_law_269 : decode cL_law 269 = .ok (.invokevirtual 59, 3) := by decide +kernel
theorem eL_law_269 : dec cL_law 269 (.invokevirtual 59) 3 272 := ⟨dL_law_269, rfl⟩
theorem dL_law_272 : decode cL_law 272 = .ok (.aload_n 2, 1) := by decide +kernel
theorem eL_law_272 : dec cL_law 272 (.aload_n 2) 1 273 := ⟨dL_law_272, rfl⟩
theorem dL_law_273 : decode cL_law 273 = .ok (.aload_n 0, 1) := by decide +kernel
theorem eL_law_273 : dec cL_law 273 (.aload_n 0) 1 274 := ⟨dL_law_273, rfl⟩
theorem dL_law_274 : decode cL_law 274 = .ok (.iload 4, 2) := by decide +kernel
theorem eL_law_274 : dec cL_law 274 (.iload 4) 2 276 := ⟨dL_law_274, rfl⟩
theorem dL_law_276 : decode cL_law 276 = .ok (.iconst 1, 1) := by decide +kernel
theorem eL_law_276 : dec cL_law 276 (.iconst 1) 1 277 := ⟨dL_law_276, rfl⟩
theorem dL_law_277 : decode cL_law 277 = .ok (.iadd, 1) := by decide +kernel
theorem eL_law_277 : dec cL_law 277 .iadd 1 278 := ⟨dL_law_277, rfl⟩
theorem dL_law_278 : decode cL_law 278 = .ok (.iaload, 1) := by decide +kernel
theorem eL_law_278 : dec cL_law 278 .iaload 1 279 := ⟨dL_law_278, rfl⟩
theorem dL_law_279 : decode cL_law 279 = .ok (.invokevirtual 63, 3) := by decide +kernel
theorem eL_law_279 : dec cL_law 279 (.invokevirtual 63) 3 282 := ⟨dL_law_279, rfl⟩
theorem dL_law_282 : decode cL_law 282 = .ok (.if_icmp .eq 218, 3) := by decide +kernel
theorem eL_law_282 : dec cL_law 282 (.if_icmp .eq 218) 3 285 := ⟨dL_law_282, rfl⟩
theorem dL_law_285 : decode cL_law 285 = .ok (.iconst 0, 1) := by decide +kernel
theorem eL_law_285 : dec cL_law 285 (.iconst 0) 1 286 := ⟨dL_law_285, rfl⟩
theorem dL_law_286 : decode cL_law 286 = .ok (.ireturn, 1) := by decide +kernel
theorem eL_law_286 : dec cL_law 286 .ireturn 1 287 := ⟨dL_law_286, rfl⟩
theorem dL_law_287 : decode cL_law 287 = .ok (.aload_n 1, 1) := by decide +kernel
theorem eL_law_287 : dec cL_law 287 (.aload_n 1) 1 288 := ⟨dL_law_287, rfl⟩
theorem dL_law_288 : decode cL_law 288 = .ok (.invokevirtual 64, 3) := by decide +kernel
theorem eL_law_288 : dec cL_law 288 (.invokevirtual 64) 3 291 := ⟨dL_law_288, rfl⟩
theorem dL_law_291 : decode cL_law 291 = .ok (.aload_n 2, 1) := by decide +kernel
theorem eL_law_291 : dec cL_law 291 (.aload_n 2) 1 292 := ⟨dL_law_291, rfl⟩
theorem dL_law_292 : decode cL_law 292 = .ok (.invokevirtual 67, 3) := by decide +kernel
theorem eL_law_292 : dec cL_law 292 (.invokevirtual 67) 3 295 := ⟨dL_law_292, rfl⟩
theorem dL_law_295 : decode cL_law 295 = .ok (.if_icmp .eq 205, 3) := by decide +kernel
theorem eL_law_295 : dec cL_law 295 (.if_icmp .eq 205) 3 298 := ⟨dL_law_295, rfl⟩
theorem dL_law_298 : decode cL_law 298 = .ok (.iconst 0, 1) := by decide +kernel
theorem eL_law_298 : dec cL_law 298 (.iconst 0) 1 299 := ⟨dL_law_298, rfl⟩
theorem dL_law_299 : decode cL_law 299 = .ok (.ireturn, 1) := by decide +kernel
theorem eL_law_299 : dec cL_law 299 .ireturn 1 300 := ⟨dL_law_299, rfl⟩
theorem dL_law_300 : decode cL_law 300 = .ok (.aload_n 1, 1) := by decide +kernel
theorem eL_law_300 : dec cL_law 300 (.aload_n 1) 1 301 := ⟨dL_law_300, rfl⟩
theorem dL_law_301 : decode cL_law 301 = .ok (.aload_n 0, 1) := by decide +kernel
theorem eL_law_301 : dec cL_law 301 (.aload_n 0) 1 302 := ⟨dL_law_301, rfl⟩
theorem dL_law_302 : decode cL_law 302 = .ok (.iload 4, 2) := by decide +kernel
theorem eL_law_302 : dec cL_law 302 (.iload 4) 2 304 := ⟨dL_law_302, rfl⟩
theorem dL_law_304 : decode cL_law 304 = .ok (.iconst 1, 1) := by decide +kernel
theorem eL_law_304 : dec cL_law 304 (.iconst 1) 1 305 := ⟨dL_law_304, rfl⟩
theorem dL_law_305 : decode cL_law 305 = .ok (.iadd, 1) := by decide +kernel
theorem eL_law_305 : dec cL_law 305 .iadd 1 306 := ⟨dL_law_305, rfl⟩
theorem dL_law_306 : decode cL_law 306 = .ok (.iaload, 1) := by decide +kernel
theorem eL_law_306 : dec cL_law 306 .iaload 1 307 := ⟨dL_law_306, rfl⟩
theorem dL_law_307 : decode cL_law 307 = .ok (.aload_n 3, 1) := by decide +kernel
theorem eL_law_307 : dec cL_law 307 (.aload_n 3) 1 308 := ⟨dL_law_307, rfl⟩
theorem dL_law_308 : decode cL_law 308 = .ok (.invokestatic 68, 3) := by decide +kernel
theorem eL_law_308 : dec cL_law 308 (.invokestatic 68) 3 311 := ⟨dL_law_308, rfl⟩
theorem dL_law_311 : decode cL_law 311 = .ok (.istore 5, 2) := by decide +kernel
theorem eL_law_311 : dec cL_law 311 (.istore 5) 2 313 := ⟨dL_law_311, rfl⟩
theorem dL_law_313 : decode cL_law 313 = .ok (.aload_n 2, 1) := by decide +kernel
theorem eL_law_313 : dec cL_law 313 (.aload_n 2) 1 314 := ⟨dL_law_313, rfl⟩
theorem dL_law_314 : decode cL_law 314 = .ok (.aload_n 0, 1) := by decide +kernel
theorem eL_law_314 : dec cL_law 314 (.aload_n 0) 1 315 := ⟨dL_law_314, rfl⟩
theorem dL_law_315 : decode cL_law 315 = .ok (.iload 4, 2) := by decide +kernel
theorem eL_law_315 : dec cL_law 315 (.iload 4) 2 317 := ⟨dL_law_315, rfl⟩
theorem dL_law_317 : decode cL_law 317 = .ok (.iconst 1, 1) := by decide +kernel
theorem eL_law_317 : dec cL_law 317 (.iconst 1) 1 318 := ⟨dL_law_317, rfl⟩
theorem dL_law_318 : decode cL_law 318 = .ok (.iadd, 1) := by decide +kernel
theorem eL_law_318 : dec cL_law 318 .iadd 1 319 := ⟨dL_law_318, rfl⟩
theorem dL_law_319 : decode cL_law 319 = .ok (.iaload, 1) := by decide +kernel
theorem eL_law_319 : dec cL_law 319 .iaload 1 320 := ⟨dL_law_319, rfl⟩
theorem dL_law_320 : decode cL_law 320 = .ok (.invokevirtual 71, 3) := by decide +kernel
theorem eL_law_320 : dec cL_law 320 (.invokevirtual 71) 3 323 := ⟨dL_law_320, rfl⟩
theorem dL_law_323 : decode cL_law 323 = .ok (.istore 6, 2) := by decide +kernel
theorem eL_law_323 : dec cL_law 323 (.istore 6) 2 325 := ⟨dL_law_323, rfl⟩
theorem dL_law_325 : decode cL_law 325 = .ok (.aload_n 2, 1) := by decide +kernel
theorem eL_law_325 : dec cL_law 325 (.aload_n 2) 1 326 := ⟨dL_law_325, rfl⟩
theorem dL_law_326 : decode cL_law 326 = .ok (.invokevirtual 39, 3) := by decide +kernel
theorem eL_law_326 : dec cL_law 326 (.invokevirtual 39) 3 329 := ⟨dL_law_326, rfl⟩
theorem dL_law_329 : decode cL_law 329 = .ok (.iload 5, 2) := by decide +kernel
theorem eL_law_329 : dec cL_law 329 (.iload 5) 2 331 := ⟨dL_law_329, rfl⟩
theorem dL_law_331 : decode cL_law 331 = .ok (.if_icmp .eq 5, 3) := by decide +kernel
theorem eL_law_331 : dec cL_law 331 (.if_icmp .eq 5) 3 334 := ⟨dL_law_331, rfl⟩
theorem dL_law_334 : decode cL_law 334 = .ok (.iconst 0, 1) := by decide +kernel
theorem eL_law_334 : dec cL_law 334 (.iconst 0) 1 335 := ⟨dL_law_334, rfl⟩
theorem dL_law_335 : decode cL_law 335 = .ok (.ireturn, 1) := by decide +kernel
theorem eL_law_335 : dec cL_law 335 .ireturn 1 336 := ⟨dL_law_335, rfl⟩
theorem dL_law_336 : decode cL_law 336 = .ok (.iload 5, 2) := by decide +kernel
theorem eL_law_336 : dec cL_law 336 (.iload 5) 2 338 := ⟨dL_law_336, rfl⟩
theorem dL_law_338 : decode cL_law 338 = .ok (.ifCond .ne 15, 3) := by decide +kernel
theorem eL_law_338 : dec cL_law 338 (.ifCond .ne 15) 3 341 := ⟨dL_law_338, rfl⟩
theorem dL_law_341 : decode cL_law 341 = .ok (.aload_n 3, 1) := by decide +kernel
theorem eL_law_341 : dec cL_law 341 (.aload_n 3) 1 342 := ⟨dL_law_341, rfl⟩
theorem dL_law_342 : decode cL_law 342 = .ok (.iconst 0, 1) := by decide +kernel
theorem eL_law_342 : dec cL_law 342 (.iconst 0) 1 343 := ⟨dL_law_342, rfl⟩
theorem dL_law_343 : decode cL_law 343 = .ok (.laload, 1) := by decide +kernel
theorem eL_law_343 : dec cL_law 343 .laload 1 344 := ⟨dL_law_343, rfl⟩
theorem dL_law_344 : decode cL_law 344 = .ok (.iload 6, 2) := by decide +kernel
theorem eL_law_344 : dec cL_law 344 (.iload 6) 2 346 := ⟨dL_law_344, rfl⟩
theorem dL_law_346 : decode cL_law 346 = .ok (.i2l, 1) := by decide +kernel
theorem eL_law_346 : dec cL_law 346 .i2l 1 347 := ⟨dL_law_346, rfl⟩
theorem dL_law_347 : decode cL_law 347 = .ok (.lcmp, 1) := by decide +kernel
theorem eL_law_347 : dec cL_law 347 .lcmp 1 348 := ⟨dL_law_347, rfl⟩
theorem dL_law_348 : decode cL_law 348 = .ok (.ifCond .eq 5, 3) := by decide +kernel
theorem eL_law_348 : dec cL_law 348 (.ifCond .eq 5) 3 351 := ⟨dL_law_348, rfl⟩
theorem dL_law_351 : decode cL_law 351 = .ok (.iconst 0, 1) := by decide +kernel
theorem eL_law_351 : dec cL_law 351 (.iconst 0) 1 352 := ⟨dL_law_351, rfl⟩
theorem dL_law_352 : decode cL_law 352 = .ok (.ireturn, 1) := by decide +kernel
theorem eL_law_352 : dec cL_law 352 .ireturn 1 353 := ⟨dL_law_352, rfl⟩
theorem dL_law_353 : decode cL_law 353 = .ok (.goto 147, 3) := by decide +kernel
theorem eL_law_353 : dec cL_law 353 (.goto 147) 3 356 := ⟨dL_law_353, rfl⟩
theorem dL_law_356 : decode cL_law 356 = .ok (.aload_n 1, 1) := by decide +kernel
theorem eL_law_356 : dec cL_law 356 (.aload_n 1) 1 357 := ⟨dL_law_356, rfl⟩
theorem dL_law_357 : decode cL_law 357 = .ok (.aload_n 0, 1) := by decide +kernel
theorem eL_law_357 : dec cL_law 357 (.aload_n 0) 1 358 := ⟨dL_law_357, rfl⟩
theorem dL_law_358 : decode cL_law 358 = .ok (.iload 4, 2) := by decide +kernel
theorem eL_law_358 : dec cL_law 358 (.iload 4) 2 360 := ⟨dL_law_358, rfl⟩
theorem dL_law_360 : decode cL_law 360 = .ok (.iconst 1, 1) := by decide +kernel
theorem eL_law_360 : dec cL_law 360 (.iconst 1) 1 361 := ⟨dL_law_360, rfl⟩
theorem dL_law_361 : decode cL_law 361 = .ok (.iadd, 1) := by decide +kernel
theorem eL_law_361 : dec cL_law 361 .iadd 1 362 := ⟨dL_law_361, rfl⟩
theorem dL_law_362 : decode cL_law 362 = .ok (.iaload, 1) := by decide +kernel
theorem eL_law_362 : dec cL_law 362 .iaload 1 363 := ⟨dL_law_362, rfl⟩
theorem dL_law_363 : decode cL_law 363 = .ok (.i2b, 1) := by decide +kernel
theorem eL_law_363 : dec cL_law 363 .i2b 1 364 := ⟨dL_law_363, rfl⟩
theorem dL_law_364 : decode cL_law 364 = .ok (.invokevirtual 72, 3) := by decide +kernel
theorem eL_law_364 : dec cL_law 364 (.invokevirtual 72) 3 367 := ⟨dL_law_364, rfl⟩
theorem dL_law_367 : decode cL_law 367 = .ok (.aload_n 2, 1) := by decide +kernel
theorem eL_law_367 : dec cL_law 367 (.aload_n 2) 1 368 := ⟨dL_law_367, rfl⟩
theorem dL_law_368 : decode cL_law 368 = .ok (.aload_n 0, 1) := by decide +kernel
theorem eL_law_368 : dec cL_law 368 (.aload_n 0) 1 369 := ⟨dL_law_368, rfl⟩
theorem dL_law_369 : decode cL_law 369 = .ok (.iload 4, 2) := by decide +kernel
theorem eL_law_369 : dec cL_law 369 (.iload 4) 2 371 := ⟨dL_law_369, rfl⟩
theorem dL_law_371 : decode cL_law 371 = .ok (.iconst 1, 1) := by decide +kernel
theorem eL_law_371 : dec cL_law 371 (.iconst 1) 1 372 := ⟨dL_law_371, rfl⟩
theorem dL_law_372 : decode cL_law 372 = .ok (.iadd, 1) := by decide +kernel
theorem eL_law_372 : dec cL_law 372 .iadd 1 373 := ⟨dL_law_372, rfl⟩
theorem dL_law_373 : decode cL_law 373 = .ok (.iaload, 1) := by decide +kernel
theorem eL_law_373 : dec cL_law 373 .iaload 1 374 := ⟨dL_law_373, rfl⟩
theorem dL_law_374 : decode cL_law 374 = .ok (.i2b, 1) := by decide +kernel
theorem eL_law_374 : dec cL_law 374 .i2b 1 375 := ⟨dL_law_374, rfl⟩
theorem dL_law_375 : decode cL_law 375 = .ok (.invokevirtual 76, 3) := by decide +kernel
theorem eL_law_375 : dec cL_law 375 (.invokevirtual 76) 3 378 := ⟨dL_law_375, rfl⟩
theorem dL_law_378 : decode cL_law 378 = .ok (.goto 122, 3) := by decide +kernel
theorem eL_law_378 : dec cL_law 378 (.goto 122) 3 381 := ⟨dL_law_378, rfl⟩
theorem dL_law_381 : decode cL_law 381 = .ok (.aload_n 1, 1) := by decide +kernel
theorem eL_law_381 : dec cL_law 381 (.aload_n 1) 1 382 := ⟨dL_law_381, rfl⟩
theorem dL_law_382 : decode cL_law 382 = .ok (.invokevirtual 77, 3) := by decide +kernel
theorem eL_law_382 : dec cL_law 382 (.invokevirtual 77) 3 385 := ⟨dL_law_382, rfl⟩
theorem dL_law_385 : decode cL_law 385 = .ok (.aload_n 2, 1) := by decide +kernel
theorem eL_law_385 : dec cL_law 385 (.aload_n 2) 1 386 := ⟨dL_law_385, rfl⟩
theorem dL_law_386 : decode cL_law 386 = .ok (.invokevirtual 80, 3) := by decide +kernel
theorem eL_law_386 : dec cL_law 386 (.invokevirtual 80) 3 389 := ⟨dL_law_386, rfl⟩
theorem dL_law_389 : decode cL_law 389 = .ok (.if_icmp .eq 111, 3) := by decide +kernel
theorem eL_law_389 : dec cL_law 389 (.if_icmp .eq 111) 3 392 := ⟨dL_law_389, rfl⟩
theorem dL_law_392 : decode cL_law 392 = .ok (.iconst 0, 1) := by decide +kernel
theorem eL_law_392 : dec cL_law 392 (.iconst 0) 1 393 := ⟨dL_law_392, rfl⟩
theorem dL_law_393 : decode cL_law 393 = .ok (.ireturn, 1) := by decide +kernel
theorem eL_law_393 : dec cL_law 393 .ireturn 1 394 := ⟨dL_law_393, rfl⟩
theorem dL_law_394 : decode cL_law 394 = .ok (.aload_n 1, 1) := by decide +kernel
theorem eL_law_394 : dec cL_law 394 (.aload_n 1) 1 395 := ⟨dL_law_394, rfl⟩
theorem dL_law_395 : decode cL_law 395 = .ok (.aload_n 0, 1) := by decide +kernel
theorem eL_law_395 : dec cL_law 395 (.aload_n 0) 1 396 := ⟨dL_law_395, rfl⟩
theorem dL_law_396 : decode cL_law 396 = .ok (.iload 4, 2) := by decide +kernel
theorem eL_law_396 : dec cL_law 396 (.iload 4) 2 398 := ⟨dL_law_396, rfl⟩
theorem dL_law_398 : decode cL_law 398 = .ok (.iconst 1, 1) := by decide +kernel
theorem eL_law_398 : dec cL_law 398 (.iconst 1) 1 399 := ⟨dL_law_398, rfl⟩
theorem dL_law_399 : decode cL_law 399 = .ok (.iadd, 1) := by decide +kernel
theorem eL_law_399 : dec cL_law 399 .iadd 1 400 := ⟨dL_law_399, rfl⟩
theorem dL_law_400 : decode cL_law 400 = .ok (.iaload, 1) := by decide +kernel
theorem eL_law_400 : dec cL_law 400 .iaload 1 401 := ⟨dL_law_400, rfl⟩
theorem dL_law_401 : decode cL_law 401 = .ok (.invokevirtual 81, 3) := by decide +kernel
theorem eL_law_401 : dec cL_law 401 (.invokevirtual 81) 3 404 := ⟨dL_law_401, rfl⟩
theorem dL_law_404 : decode cL_law 404 = .ok (.aload_n 2, 1) := by decide +kernel
theorem eL_law_404 : dec cL_law 404 (.aload_n 2) 1 405 := ⟨dL_law_404, rfl⟩
theorem dL_law_405 : decode cL_law 405 = .ok (.aload_n 0, 1) := by decide +kernel
theorem eL_law_405 : dec cL_law 405 (.aload_n 0) 1 406 := ⟨dL_law_405, rfl⟩
theorem dL_law_406 : decode cL_law 406 = .ok (.iload 4, 2) := by decide +kernel
theorem eL_law_406 : dec cL_law 406 (.iload 4) 2 408 := ⟨dL_law_406, rfl⟩
theorem dL_law_408 : decode cL_law 408 = .ok (.iconst 1, 1) := by decide +kernel
theorem eL_law_408 : dec cL_law 408 (.iconst 1) 1 409 := ⟨dL_law_408, rfl⟩
theorem dL_law_409 : decode cL_law 409 = .ok (.iadd, 1) := by decide +kernel
theorem eL_law_409 : dec cL_law 409 .iadd 1 410 := ⟨dL_law_409, rfl⟩
theorem dL_law_410 : decode cL_law 410 = .ok (.iaload, 1) := by decide +kernel
theorem eL_law_410 : dec cL_law 410 .iaload 1 411 := ⟨dL_law_410, rfl⟩
theorem dL_law_411 : decode cL_law 411 = .ok (.invokevirtual 84, 3) := by decide +kernel
theorem eL_law_411 : dec cL_law 411 (.invokevirtual 84) 3 414 := ⟨dL_law_411, rfl⟩
theorem dL_law_414 : decode cL_law 414 = .ok (.if_icmp .eq 86, 3) := by decide +kernel
theorem eL_law_414 : dec cL_law 414 (.if_icmp .eq 86) 3 417 := ⟨dL_law_414, rfl⟩
theorem dL_law_417 : decode cL_law 417 = .ok (.iconst 0, 1) := by decide +kernel
theorem eL_law_417 : dec cL_law 417 (.iconst 0) 1 418 := ⟨dL_law_417, rfl⟩
theorem dL_law_418 : decode cL_law 418 = .ok (.ireturn, 1) := by decide +kernel
theorem eL_law_418 : dec cL_law 418 .ireturn 1 419 := ⟨dL_law_418, rfl⟩
theorem dL_law_419 : decode cL_law 419 = .ok (.aload_n 1, 1) := by decide +kernel
theorem eL_law_419 : dec cL_law 419 (.aload_n 1) 1 420 := ⟨dL_law_419, rfl⟩
theorem dL_law_420 : decode cL_law 420 = .ok (.invokevirtual 85, 3) := by decide +kernel
theorem eL_law_420 : dec cL_law 420 (.invokevirtual 85) 3 423 := ⟨dL_law_420, rfl⟩
theorem dL_law_423 : decode cL_law 423 = .ok (.aload_n 2, 1) := by decide +kernel
theorem eL_law_423 : dec cL_law 423 (.aload_n 2) 1 424 := ⟨dL_law_423, rfl⟩
theorem dL_law_424 : decode cL_law 424 = .ok (.invokevirtual 89, 3) := by decide +kernel
theorem eL_law_424 : dec cL_law 424 (.invokevirtual 89) 3 427 := ⟨dL_law_424, rfl⟩
theorem dL_law_427 : decode cL_law 427 = .ok (.if_icmp .eq 73, 3) := by decide +kernel
theorem eL_law_427 : dec cL_law 427 (.if_icmp .eq 73) 3 430 := ⟨dL_law_427, rfl⟩
theorem dL_law_430 : decode cL_law 430 = .ok (.iconst 0, 1) := by decide +kernel
theorem eL_law_430 : dec cL_law 430 (.iconst 0) 1 431 := ⟨dL_law_430, rfl⟩
theorem dL_law_431 : decode cL_law 431 = .ok (.ireturn, 1) := by decide +kernel
theorem eL_law_431 : dec cL_law 431 .ireturn 1 432 := ⟨dL_law_431, rfl⟩
theorem dL_law_432 : decode cL_law 432 = .ok (.aload_n 1, 1) := by decide +kernel
theorem eL_law_432 : dec cL_law 432 (.aload_n 1) 1 433 := ⟨dL_law_432, rfl⟩
theorem dL_law_433 : decode cL_law 433 = .ok (.aload_n 0, 1) := by decide +kernel
theorem eL_law_433 : dec cL_law 433 (.aload_n 0) 1 434 := ⟨dL_law_433, rfl⟩
theorem dL_law_434 : decode cL_law 434 = .ok (.iload 4, 2) := by decide +kernel
theorem eL_law_434 : dec cL_law 434 (.iload 4) 2 436 := ⟨dL_law_434, rfl⟩
theorem dL_law_436 : decode cL_law 436 = .ok (.iconst 1, 1) := by decide +kernel
theorem eL_law_436 : dec cL_law 436 (.iconst 1) 1 437 := ⟨dL_law_436, rfl⟩
theorem dL_law_437 : decode cL_law 437 = .ok (.iadd, 1) := by decide +kernel
theorem eL_law_437 : dec cL_law 437 .iadd 1 438 := ⟨dL_law_437, rfl⟩
theorem dL_law_438 : decode cL_law 438 = .ok (.iaload, 1) := by decide +kernel
theorem eL_law_438 : dec cL_law 438 .iaload 1 439 := ⟨dL_law_438, rfl⟩
theorem dL_law_439 : decode cL_law 439 = .ok (.aload_n 0, 1) := by decide +kernel
theorem eL_law_439 : dec cL_law 439 (.aload_n 0) 1 440 := ⟨dL_law_439, rfl⟩
theorem dL_law_440 : decode cL_law 440 = .ok (.iload 4, 2) := by decide +kernel
theorem eL_law_440 : dec cL_law 440 (.iload 4) 2 442 := ⟨dL_law_440, rfl⟩
theorem dL_law_442 : decode cL_law 442 = .ok (.iconst 2, 1) := by decide +kernel
theorem eL_law_442 : dec cL_law 442 (.iconst 2) 1 443 := ⟨dL_law_442, rfl⟩
theorem dL_law_443 : decode cL_law 443 = .ok (.iadd, 1) := by decide +kernel
theorem eL_law_443 : dec cL_law 443 .iadd 1 444 := ⟨dL_law_443, rfl⟩
theorem dL_law_444 : decode cL_law 444 = .ok (.iaload, 1) := by decide +kernel
theorem eL_law_444 : dec cL_law 444 .iaload 1 445 := ⟨dL_law_444, rfl⟩
theorem dL_law_445 : decode cL_law 445 = .ok (.aload_n 3, 1) := by decide +kernel
theorem eL_law_445 : dec cL_law 445 (.aload_n 3) 1 446 := ⟨dL_law_445, rfl⟩
theorem dL_law_446 : decode cL_law 446 = .ok (.invokestatic 90, 3) := by decide +kernel
theorem eL_law_446 : dec cL_law 446 (.invokestatic 90) 3 449 := ⟨dL_law_446, rfl⟩
theorem dL_law_449 : decode cL_law 449 = .ok (.istore 5, 2) := by decide +kernel
theorem eL_law_449 : dec cL_law 449 (.istore 5) 2 451 := ⟨dL_law_449, rfl⟩
theorem dL_law_451 : decode cL_law 451 = .ok (.aload_n 2, 1) := by decide +kernel
theorem eL_law_451 : dec cL_law 451 (.aload_n 2) 1 452 := ⟨dL_law_451, rfl⟩
theorem dL_law_452 : decode cL_law 452 = .ok (.aload_n 0, 1) := by decide +kernel
theorem eL_law_452 : dec cL_law 452 (.aload_n 0) 1 453 := ⟨dL_law_452, rfl⟩
theorem dL_law_453 : decode cL_law 453 = .ok (.iload 4, 2) := by decide +kernel
theorem eL_law_453 : dec cL_law 453 (.iload 4) 2 455 := ⟨dL_law_453, rfl⟩
theorem dL_law_455 : decode cL_law 455 = .ok (.iconst 1, 1) := by decide +kernel
theorem eL_law_455 : dec cL_law 455 (.iconst 1) 1 456 := ⟨dL_law_455, rfl⟩
theorem dL_law_456 : decode cL_law 456 = .ok (.iadd, 1) := by decide +kernel
theorem eL_law_456 : dec cL_law 456 .iadd 1 457 := ⟨dL_law_456, rfl⟩
theorem dL_law_457 : decode cL_law 457 = .ok (.iaload, 1) := by decide +kernel
theorem eL_law_457 : dec cL_law 457 .iaload 1 458 := ⟨dL_law_457, rfl⟩
theorem dL_law_458 : decode cL_law 458 = .ok (.aload_n 0, 1) := by decide +kernel
theorem eL_law_458 : dec cL_law 458 (.aload_n 0) 1 459 := ⟨dL_law_458, rfl⟩
theorem dL_law_459 : decode cL_law 459 = .ok (.iload 4, 2) := by decide +kernel
theorem eL_law_459 : dec cL_law 459 (.iload 4) 2 461 := ⟨dL_law_459, rfl⟩
theorem dL_law_461 : decode cL_law 461 = .ok (.iconst 2, 1) := by decide +kernel
theorem eL_law_461 : dec cL_law 461 (.iconst 2) 1 462 := ⟨dL_law_461, rfl⟩
theorem dL_law_462 : decode cL_law 462 = .ok (.iadd, 1) := by decide +kernel
theorem eL_law_462 : dec cL_law 462 .iadd 1 463 := ⟨dL_law_462, rfl⟩
theorem dL_law_463 : decode cL_law 463 = .ok (.iaload, 1) := by decide +kernel
theorem eL_law_463 : dec cL_law 463 .iaload 1 464 := ⟨dL_law_463, rfl⟩
theorem dL_law_464 : decode cL_law 464 = .ok (.invokevirtual 93, 3) := by decide +kernel
theorem eL_law_464 : dec cL_law 464 (.invokevirtual 93) 3 467 := ⟨dL_law_464, rfl⟩
theorem dL_law_467 : decode cL_law 467 = .ok (.istore 6, 2) := by decide +kernel
theorem eL_law_467 : dec cL_law 467 (.istore 6) 2 469 := ⟨dL_law_467, rfl⟩
theorem dL_law_469 : decode cL_law 469 = .ok (.aload_n 2, 1) := by decide +kernel
theorem eL_law_469 : dec cL_law 469 (.aload_n 2) 1 470 := ⟨dL_law_469, rfl⟩
theorem dL_law_470 : decode cL_law 470 = .ok (.invokevirtual 39, 3) := by decide +kernel
theorem eL_law_470 : dec cL_law 470 (.invokevirtual 39) 3 473 := ⟨dL_law_470, rfl⟩
theorem dL_law_473 : decode cL_law 473 = .ok (.iload 5, 2) := by decide +kernel
theorem eL_law_473 : dec cL_law 473 (.iload 5) 2 475 := ⟨dL_law_473, rfl⟩
theorem dL_law_475 : decode cL_law 475 = .ok (.if_icmp .eq 5, 3) := by decide +kernel
theorem eL_law_475 : dec cL_law 475 (.if_icmp .eq 5) 3 478 := ⟨dL_law_475, rfl⟩
theorem dL_law_478 : decode cL_law 478 = .ok (.iconst 0, 1) := by decide +kernel
theorem eL_law_478 : dec cL_law 478 (.iconst 0) 1 479 := ⟨dL_law_478, rfl⟩
theorem dL_law_479 : decode cL_law 479 = .ok (.ireturn, 1) := by decide +kernel
theorem eL_law_479 : dec cL_law 479 .ireturn 1 480 := ⟨dL_law_479, rfl⟩
theorem dL_law_480 : decode cL_law 480 = .ok (.iload 5, 2) := by decide +kernel
theorem eL_law_480 : dec cL_law 480 (.iload 5) 2 482 := ⟨dL_law_480, rfl⟩
theorem dL_law_482 : decode cL_law 482 = .ok (.ifCond .ne 15, 3) := by decide +kernel
theorem eL_law_482 : dec cL_law 482 (.ifCond .ne 15) 3 485 := ⟨dL_law_482, rfl⟩
theorem dL_law_485 : decode cL_law 485 = .ok (.aload_n 3, 1) := by decide +kernel
theorem eL_law_485 : dec cL_law 485 (.aload_n 3) 1 486 := ⟨dL_law_485, rfl⟩
theorem dL_law_486 : decode cL_law 486 = .ok (.iconst 0, 1) := by decide +kernel
theorem eL_law_486 : dec cL_law 486 (.iconst 0) 1 487 := ⟨dL_law_486, rfl⟩
theorem dL_law_487 : decode cL_law 487 = .ok (.laload, 1) := by decide +kernel
theorem eL_law_487 : dec cL_law 487 .laload 1 488 := ⟨dL_law_487, rfl⟩
theorem dL_law_488 : decode cL_law 488 = .ok (.iload 6, 2) := by decide +kernel
theorem eL_law_488 : dec cL_law 488 (.iload 6) 2 490 := ⟨dL_law_488, rfl⟩
theorem dL_law_490 : decode cL_law 490 = .ok (.i2l, 1) := by decide +kernel
theorem eL_law_490 : dec cL_law 490 .i2l 1 491 := ⟨dL_law_490, rfl⟩
theorem dL_law_491 : decode cL_law 491 = .ok (.lcmp, 1) := by decide +kernel
theorem eL_law_491 : dec cL_law 491 .lcmp 1 492 := ⟨dL_law_491, rfl⟩
theorem dL_law_492 : decode cL_law 492 = .ok (.ifCond .eq 5, 3) := by decide +kernel
theorem eL_law_492 : dec cL_law 492 (.ifCond .eq 5) 3 495 := ⟨dL_law_492, rfl⟩
theorem dL_law_495 : decode cL_law 495 = .ok (.iconst 0, 1) := by decide +kernel
theorem eL_law_495 : dec cL_law 495 (.iconst 0) 1 496 := ⟨dL_law_495, rfl⟩
theorem dL_law_496 : decode cL_law 496 = .ok (.ireturn, 1) := by decide +kernel
theorem eL_law_496 : dec cL_law 496 .ireturn 1 497 := ⟨dL_law_496, rfl⟩
theorem dL_law_497 : decode cL_law 497 = .ok (.goto 3, 3) := by decide +kernel
theorem eL_law_497 : dec cL_law 497 (.goto 3) 3 500 := ⟨dL_law_497, rfl⟩
theorem dL_law_500 : decode cL_law 500 = .ok (.iinc 4 4, 3) := by decide +kernel
theorem eL_law_500 : dec cL_law 500 (.iinc 4 4) 3 503 := ⟨dL_law_500, rfl⟩
theorem dL_law_503 : decode cL_law 503 = .ok (.goto (-460), 3) := by decide +kernel
theorem eL_law_503 : dec cL_law 503 (.goto (-460)) 3 506 := ⟨dL_law_503, rfl⟩
theorem dL_law_506 : decode cL_law 506 = .ok (.iconst 1, 1) := by decide +kernel
theorem eL_law_506 : dec cL_law 506 (.iconst 1) 1 507 := ⟨dL_law_506, rfl⟩
theorem dL_law_507 : decode cL_law 507 = .ok (.ireturn, 1) := by decide +kernel
theorem eL_law_507 : dec cL_law 507 .ireturn 1 508 := ⟨dL_law_507, rfl⟩
