theorem d_Co_init_0 : decode c_Co_init 0 = .ok (.aload_n 0, 1) := by decide +kernel
theorem d_Co_init_1 : decode c_Co_init 1 = .ok (.invokespecial 3, 3) := by decide +kernel
theorem d_Co_init_4 : decode c_Co_init 4 = .ok (.aload_n 0, 1) := by decide +kernel
theorem d_Co_init_5 : decode c_Co_init 5 = .ok (.sipush 256, 3) := by decide +kernel
theorem d_Co_init_8 : decode c_Co_init 8 = .ok (.newarray .int, 2) := by decide +kernel
theorem d_Co_init_10 : decode c_Co_init 10 = .ok (.putfield 9, 3) := by decide +kernel
theorem d_Co_init_13 : decode c_Co_init 13 = .ok (.aload_n 0, 1) := by decide +kernel
theorem d_Co_init_14 : decode c_Co_init 14 = .ok (.new 13, 3) := by decide +kernel
theorem d_Co_init_17 : decode c_Co_init 17 = .ok (.dup, 1) := by decide +kernel
theorem d_Co_init_18 : decode c_Co_init 18 = .ok (.bipush 32, 2) := by decide +kernel
theorem d_Co_init_20 : decode c_Co_init 20 = .ok (.invokespecial 15, 3) := by decide +kernel
theorem d_Co_init_23 : decode c_Co_init 23 = .ok (.putfield 18, 3) := by decide +kernel
theorem d_Co_init_26 : decode c_Co_init 26 = .ok (.aload_n 0, 1) := by decide +kernel
theorem d_Co_init_27 : decode c_Co_init 27 = .ok (.new 13, 3) := by decide +kernel
theorem d_Co_init_30 : decode c_Co_init 30 = .ok (.dup, 1) := by decide +kernel
theorem d_Co_init_31 : decode c_Co_init 31 = .ok (.bipush 64, 2) := by decide +kernel
theorem d_Co_init_33 : decode c_Co_init 33 = .ok (.invokespecial 15, 3) := by decide +kernel
theorem d_Co_init_36 : decode c_Co_init 36 = .ok (.putfield 22, 3) := by decide +kernel
theorem d_Co_init_39 : decode c_Co_init 39 = .ok (.aload_n 0, 1) := by decide +kernel
theorem d_Co_init_40 : decode c_Co_init 40 = .ok (.new 25, 3) := by decide +kernel
theorem d_Co_init_43 : decode c_Co_init 43 = .ok (.dup, 1) := by decide +kernel
theorem d_Co_init_44 : decode c_Co_init 44 = .ok (.bipush 64, 2) := by decide +kernel
theorem d_Co_init_46 : decode c_Co_init 46 = .ok (.invokespecial 27, 3) := by decide +kernel
theorem d_Co_init_49 : decode c_Co_init 49 = .ok (.putfield 28, 3) := by decide +kernel
theorem d_Co_init_52 : decode c_Co_init 52 = .ok (.aload_n 0, 1) := by decide +kernel
theorem d_Co_init_53 : decode c_Co_init 53 = .ok (.new 25, 3) := by decide +kernel
theorem d_Co_init_56 : decode c_Co_init 56 = .ok (.dup, 1) := by decide +kernel
theorem d_Co_init_57 : decode c_Co_init 57 = .ok (.sipush 256, 3) := by decide +kernel
theorem d_Co_init_60 : decode c_Co_init 60 = .ok (.invokespecial 27, 3) := by decide +kernel
theorem d_Co_init_63 : decode c_Co_init 63 = .ok (.putfield 32, 3) := by decide +kernel
theorem d_Co_init_66 : decode c_Co_init 66 = .ok (.aload_n 0, 1) := by decide +kernel
theorem d_Co_init_67 : decode c_Co_init 67 = .ok (.new 35, 3) := by decide +kernel
theorem d_Co_init_70 : decode c_Co_init 70 = .ok (.dup, 1) := by decide +kernel
theorem d_Co_init_71 : decode c_Co_init 71 = .ok (.invokespecial 37, 3) := by decide +kernel
theorem d_Co_init_74 : decode c_Co_init 74 = .ok (.putfield 38, 3) := by decide +kernel
theorem d_Co_init_77 : decode c_Co_init 77 = .ok (.aload_n 0, 1) := by decide +kernel
theorem d_Co_init_78 : decode c_Co_init 78 = .ok (.new 42, 3) := by decide +kernel
theorem d_Co_init_81 : decode c_Co_init 81 = .ok (.dup, 1) := by decide +kernel
theorem d_Co_init_82 : decode c_Co_init 82 = .ok (.invokespecial 44, 3) := by decide +kernel
theorem d_Co_init_85 : decode c_Co_init 85 = .ok (.putfield 45, 3) := by decide +kernel
theorem d_Co_init_88 : decode c_Co_init 88 = .ok (.aload_n 0, 1) := by decide +kernel
theorem d_Co_init_89 : decode c_Co_init 89 = .ok (.new 49, 3) := by decide +kernel
theorem d_Co_init_92 : decode c_Co_init 92 = .ok (.dup, 1) := by decide +kernel
theorem d_Co_init_93 : decode c_Co_init 93 = .ok (.invokespecial 51, 3) := by decide +kernel
theorem d_Co_init_96 : decode c_Co_init 96 = .ok (.putfield 52, 3) := by decide +kernel
theorem d_Co_init_99 : decode c_Co_init 99 = .ok (.iconst 0, 1) := by decide +kernel
theorem d_Co_init_100 : decode c_Co_init 100 = .ok (.istore_n 1, 1) := by decide +kernel
theorem d_Co_init_101 : decode c_Co_init 101 = .ok (.iload_n 1, 1) := by decide +kernel
theorem d_Co_init_102 : decode c_Co_init 102 = .ok (.bipush 9, 2) := by decide +kernel
theorem d_Co_init_104 : decode c_Co_init 104 = .ok (.if_icmp .ge 47, 3) := by decide +kernel
theorem d_Co_init_107 : decode c_Co_init 107 = .ok (.iconst 4, 1) := by decide +kernel
theorem d_Co_init_108 : decode c_Co_init 108 = .ok (.iload_n 1, 1) := by decide +kernel
theorem d_Co_init_109 : decode c_Co_init 109 = .ok (.imul, 1) := by decide +kernel
theorem d_Co_init_110 : decode c_Co_init 110 = .ok (.istore_n 2, 1) := by decide +kernel
theorem d_Co_init_111 : decode c_Co_init 111 = .ok (.aload_n 0, 1) := by decide +kernel
theorem d_Co_init_112 : decode c_Co_init 112 = .ok (.getfield 38, 3) := by decide +kernel
theorem d_Co_init_115 : decode c_Co_init 115 = .ok (.iload_n 1, 1) := by decide +kernel
theorem d_Co_init_116 : decode c_Co_init 116 = .ok (.getstatic 56, 3) := by decide +kernel
theorem d_Co_init_119 : decode c_Co_init 119 = .ok (.iload_n 2, 1) := by decide +kernel
theorem d_Co_init_120 : decode c_Co_init 120 = .ok (.iaload, 1) := by decide +kernel
theorem d_Co_init_121 : decode c_Co_init 121 = .ok (.getstatic 56, 3) := by decide +kernel
theorem d_Co_init_124 : decode c_Co_init 124 = .ok (.iload_n 2, 1) := by decide +kernel
theorem d_Co_init_125 : decode c_Co_init 125 = .ok (.iconst 1, 1) := by decide +kernel
theorem d_Co_init_126 : decode c_Co_init 126 = .ok (.iadd, 1) := by decide +kernel
theorem d_Co_init_127 : decode c_Co_init 127 = .ok (.iaload, 1) := by decide +kernel
theorem d_Co_init_128 : decode c_Co_init 128 = .ok (.getstatic 56, 3) := by decide +kernel
theorem d_Co_init_131 : decode c_Co_init 131 = .ok (.iload_n 2, 1) := by decide +kernel
theorem d_Co_init_132 : decode c_Co_init 132 = .ok (.iconst 2, 1) := by decide +kernel
theorem d_Co_init_133 : decode c_Co_init 133 = .ok (.iadd, 1) := by decide +kernel
theorem d_Co_init_134 : decode c_Co_init 134 = .ok (.iaload, 1) := by decide +kernel
theorem d_Co_init_135 : decode c_Co_init 135 = .ok (.getstatic 56, 3) := by decide +kernel
theorem d_Co_init_138 : decode c_Co_init 138 = .ok (.iload_n 2, 1) := by decide +kernel
theorem d_Co_init_139 : decode c_Co_init 139 = .ok (.iconst 3, 1) := by decide +kernel
theorem d_Co_init_140 : decode c_Co_init 140 = .ok (.iadd, 1) := by decide +kernel
theorem d_Co_init_141 : decode c_Co_init 141 = .ok (.iaload, 1) := by decide +kernel
theorem d_Co_init_142 : decode c_Co_init 142 = .ok (.invokevirtual 59, 3) := by decide +kernel
theorem d_Co_init_145 : decode c_Co_init 145 = .ok (.iinc 1 1, 3) := by decide +kernel
theorem d_Co_init_148 : decode c_Co_init 148 = .ok (.goto (-47), 3) := by decide +kernel
theorem d_Co_init_151 : decode c_Co_init 151 = .ok (.return_, 1) := by decide +kernel
theorem d_Co_word_0 : decode c_Co_word 0 = .ok (.aload_n 0, 1) := by decide +kernel
theorem d_Co_word_1 : decode c_Co_word 1 = .ok (.getfield 63, 3) := by decide +kernel
theorem d_Co_word_4 : decode c_Co_word 4 = .ok (.sipush 256, 3) := by decide +kernel
theorem d_Co_word_7 : decode c_Co_word 7 = .ok (.if_icmp .lt 5, 3) := by decide +kernel
theorem d_Co_word_10 : decode c_Co_word 10 = .ok (.iconst (-1), 1) := by decide +kernel
theorem d_Co_word_11 : decode c_Co_word 11 = .ok (.ireturn, 1) := by decide +kernel
theorem d_Co_word_12 : decode c_Co_word 12 = .ok (.aload_n 0, 1) := by decide +kernel
theorem d_Co_word_13 : decode c_Co_word 13 = .ok (.getfield 9, 3) := by decide +kernel
theorem d_Co_word_16 : decode c_Co_word 16 = .ok (.aload_n 0, 1) := by decide +kernel
theorem d_Co_word_17 : decode c_Co_word 17 = .ok (.getfield 63, 3) := by decide +kernel
theorem d_Co_word_20 : decode c_Co_word 20 = .ok (.iload_n 1, 1) := by decide +kernel
theorem d_Co_word_21 : decode c_Co_word 21 = .ok (.iastore, 1) := by decide +kernel
theorem d_Co_word_22 : decode c_Co_word 22 = .ok (.aload_n 0, 1) := by decide +kernel
theorem d_Co_word_23 : decode c_Co_word 23 = .ok (.dup, 1) := by decide +kernel
theorem d_Co_word_24 : decode c_Co_word 24 = .ok (.getfield 63, 3) := by decide +kernel
theorem d_Co_word_27 : decode c_Co_word 27 = .ok (.iconst 1, 1) := by decide +kernel
theorem d_Co_word_28 : decode c_Co_word 28 = .ok (.iadd, 1) := by decide +kernel
theorem d_Co_word_29 : decode c_Co_word 29 = .ok (.putfield 63, 3) := by decide +kernel
theorem d_Co_word_32 : decode c_Co_word 32 = .ok (.aload_n 0, 1) := by decide +kernel
theorem d_Co_word_33 : decode c_Co_word 33 = .ok (.getfield 63, 3) := by decide +kernel
theorem d_Co_word_36 : decode c_Co_word 36 = .ok (.ireturn, 1) := by decide +kernel
theorem d_Co_clear_0 : decode c_Co_clear 0 = .ok (.aload_n 0, 1) := by decide +kernel
theorem d_Co_clear_1 : decode c_Co_clear 1 = .ok (.getfield 63, 3) := by decide +kernel
theorem d_Co_clear_4 : decode c_Co_clear 4 = .ok (.istore_n 1, 1) := by decide +kernel
theorem d_Co_clear_5 : decode c_Co_clear 5 = .ok (.aload_n 0, 1) := by decide +kernel
theorem d_Co_clear_6 : decode c_Co_clear 6 = .ok (.iconst 0, 1) := by decide +kernel
theorem d_Co_clear_7 : decode c_Co_clear 7 = .ok (.putfield 63, 3) := by decide +kernel
theorem d_Co_clear_10 : decode c_Co_clear 10 = .ok (.aload_n 0, 1) := by decide +kernel
theorem d_Co_clear_11 : decode c_Co_clear 11 = .ok (.invokevirtual 67, 3) := by decide +kernel
theorem d_Co_clear_14 : decode c_Co_clear 14 = .ok (.iload_n 1, 1) := by decide +kernel
theorem d_Co_clear_15 : decode c_Co_clear 15 = .ok (.ireturn, 1) := by decide +kernel
theorem d_Co_begin_0 : decode c_Co_begin 0 = .ok (.aload_n 0, 1) := by decide +kernel
theorem d_Co_begin_1 : decode c_Co_begin 1 = .ok (.invokevirtual 67, 3) := by decide +kernel
theorem d_Co_begin_4 : decode c_Co_begin 4 = .ok (.return_, 1) := by decide +kernel
theorem d_Co_rule_0 : decode c_Co_rule 0 = .ok (.iload_n 1, 1) := by decide +kernel
theorem d_Co_rule_1 : decode c_Co_rule 1 = .ok (.ifCond .lt 9, 3) := by decide +kernel
theorem d_Co_rule_4 : decode c_Co_rule 4 = .ok (.iload_n 1, 1) := by decide +kernel
theorem d_Co_rule_5 : decode c_Co_rule 5 = .ok (.bipush 9, 2) := by decide +kernel
theorem d_Co_rule_7 : decode c_Co_rule 7 = .ok (.if_icmp .lt 13, 3) := by decide +kernel
theorem d_Co_rule_10 : decode c_Co_rule 10 = .ok (.new 70, 3) := by decide +kernel
theorem d_Co_rule_13 : decode c_Co_rule 13 = .ok (.dup, 1) := by decide +kernel
theorem d_Co_rule_14 : decode c_Co_rule 14 = .ok (.ldc 72, 2) := by decide +kernel
theorem d_Co_rule_16 : decode c_Co_rule 16 = .ok (.invokespecial 74, 3) := by decide +kernel
theorem d_Co_rule_19 : decode c_Co_rule 19 = .ok (.athrow, 1) := by decide +kernel
theorem d_Co_rule_20 : decode c_Co_rule 20 = .ok (.iload_n 2, 1) := by decide +kernel
theorem d_Co_rule_21 : decode c_Co_rule 21 = .ok (.invokestatic 77, 3) := by decide +kernel
theorem d_Co_rule_24 : decode c_Co_rule 24 = .ok (.ifCond .eq 26, 3) := by decide +kernel
theorem d_Co_rule_27 : decode c_Co_rule 27 = .ok (.iload_n 3, 1) := by decide +kernel
theorem d_Co_rule_28 : decode c_Co_rule 28 = .ok (.invokestatic 77, 3) := by decide +kernel
theorem d_Co_rule_31 : decode c_Co_rule 31 = .ok (.ifCond .eq 19, 3) := by decide +kernel
theorem d_Co_rule_34 : decode c_Co_rule 34 = .ok (.iload 4, 2) := by decide +kernel
theorem d_Co_rule_36 : decode c_Co_rule 36 = .ok (.invokestatic 77, 3) := by decide +kernel
theorem d_Co_rule_39 : decode c_Co_rule 39 = .ok (.ifCond .eq 11, 3) := by decide +kernel
theorem d_Co_rule_42 : decode c_Co_rule 42 = .ok (.iload 5, 2) := by decide +kernel
theorem d_Co_rule_44 : decode c_Co_rule 44 = .ok (.invokestatic 77, 3) := by decide +kernel
theorem d_Co_rule_47 : decode c_Co_rule 47 = .ok (.ifCond .ne 13, 3) := by decide +kernel
theorem d_Co_rule_50 : decode c_Co_rule 50 = .ok (.new 70, 3) := by decide +kernel
theorem d_Co_rule_53 : decode c_Co_rule 53 = .ok (.dup, 1) := by decide +kernel
theorem d_Co_rule_54 : decode c_Co_rule 54 = .ok (.ldc 81, 2) := by decide +kernel
theorem d_Co_rule_56 : decode c_Co_rule 56 = .ok (.invokespecial 74, 3) := by decide +kernel
theorem d_Co_rule_59 : decode c_Co_rule 59 = .ok (.athrow, 1) := by decide +kernel
theorem d_Co_rule_60 : decode c_Co_rule 60 = .ok (.aload_n 0, 1) := by decide +kernel
theorem d_Co_rule_61 : decode c_Co_rule 61 = .ok (.getfield 38, 3) := by decide +kernel
theorem d_Co_rule_64 : decode c_Co_rule 64 = .ok (.iload_n 1, 1) := by decide +kernel
theorem d_Co_rule_65 : decode c_Co_rule 65 = .ok (.iload_n 2, 1) := by decide +kernel
theorem d_Co_rule_66 : decode c_Co_rule 66 = .ok (.iload_n 3, 1) := by decide +kernel
theorem d_Co_rule_67 : decode c_Co_rule 67 = .ok (.iload 4, 2) := by decide +kernel
theorem d_Co_rule_69 : decode c_Co_rule 69 = .ok (.iload 5, 2) := by decide +kernel
theorem d_Co_rule_71 : decode c_Co_rule 71 = .ok (.invokevirtual 59, 3) := by decide +kernel
theorem d_Co_rule_74 : decode c_Co_rule 74 = .ok (.aload_n 0, 1) := by decide +kernel
theorem d_Co_rule_75 : decode c_Co_rule 75 = .ok (.getfield 45, 3) := by decide +kernel
theorem d_Co_rule_78 : decode c_Co_rule 78 = .ok (.invokevirtual 83, 3) := by decide +kernel
theorem d_Co_rule_81 : decode c_Co_rule 81 = .ok (.return_, 1) := by decide +kernel
theorem d_Co_cache_0 : decode c_Co_cache 0 = .ok (.iload_n 1, 1) := by decide +kernel
theorem d_Co_cache_1 : decode c_Co_cache 1 = .ok (.iconst 1, 1) := by decide +kernel
theorem d_Co_cache_2 : decode c_Co_cache 2 = .ok (.if_icmp .lt 9, 3) := by decide +kernel
theorem d_Co_cache_5 : decode c_Co_cache 5 = .ok (.iload_n 1, 1) := by decide +kernel
theorem d_Co_cache_6 : decode c_Co_cache 6 = .ok (.bipush 64, 2) := by decide +kernel
theorem d_Co_cache_8 : decode c_Co_cache 8 = .ok (.if_icmp .le 13, 3) := by decide +kernel
theorem d_Co_cache_11 : decode c_Co_cache 11 = .ok (.new 70, 3) := by decide +kernel
theorem d_Co_cache_14 : decode c_Co_cache 14 = .ok (.dup, 1) := by decide +kernel
theorem d_Co_cache_15 : decode c_Co_cache 15 = .ok (.ldc 86, 2) := by decide +kernel
theorem d_Co_cache_17 : decode c_Co_cache 17 = .ok (.invokespecial 74, 3) := by decide +kernel
theorem d_Co_cache_20 : decode c_Co_cache 20 = .ok (.athrow, 1) := by decide +kernel
theorem d_Co_cache_21 : decode c_Co_cache 21 = .ok (.aload_n 0, 1) := by decide +kernel
theorem d_Co_cache_22 : decode c_Co_cache 22 = .ok (.getfield 45, 3) := by decide +kernel
theorem d_Co_cache_25 : decode c_Co_cache 25 = .ok (.iload_n 1, 1) := by decide +kernel
theorem d_Co_cache_26 : decode c_Co_cache 26 = .ok (.invokevirtual 88, 3) := by decide +kernel
theorem d_Co_cache_29 : decode c_Co_cache 29 = .ok (.ireturn, 1) := by decide +kernel
theorem d_Co_set_0 : decode c_Co_set 0 = .ok (.iload_n 1, 1) := by decide +kernel
theorem d_Co_set_1 : decode c_Co_set 1 = .ok (.iconst 1, 1) := by decide +kernel
theorem d_Co_set_2 : decode c_Co_set 2 = .ok (.if_icmp .lt 9, 3) := by decide +kernel
theorem d_Co_set_5 : decode c_Co_set 5 = .ok (.iload_n 1, 1) := by decide +kernel
theorem d_Co_set_6 : decode c_Co_set 6 = .ok (.bipush 32, 2) := by decide +kernel
theorem d_Co_set_8 : decode c_Co_set 8 = .ok (.if_icmp .lt 13, 3) := by decide +kernel
theorem d_Co_set_11 : decode c_Co_set 11 = .ok (.new 70, 3) := by decide +kernel
theorem d_Co_set_14 : decode c_Co_set 14 = .ok (.dup, 1) := by decide +kernel
theorem d_Co_set_15 : decode c_Co_set 15 = .ok (.ldc 92, 2) := by decide +kernel
theorem d_Co_set_17 : decode c_Co_set 17 = .ok (.invokespecial 74, 3) := by decide +kernel
theorem d_Co_set_20 : decode c_Co_set 20 = .ok (.athrow, 1) := by decide +kernel
theorem d_Co_set_21 : decode c_Co_set 21 = .ok (.aload_n 0, 1) := by decide +kernel
theorem d_Co_set_22 : decode c_Co_set 22 = .ok (.getfield 18, 3) := by decide +kernel
theorem d_Co_set_25 : decode c_Co_set 25 = .ok (.iload_n 1, 1) := by decide +kernel
theorem d_Co_set_26 : decode c_Co_set 26 = .ok (.iload_n 2, 1) := by decide +kernel
theorem d_Co_set_27 : decode c_Co_set 27 = .ok (.iload_n 3, 1) := by decide +kernel
theorem d_Co_set_28 : decode c_Co_set 28 = .ok (.invokevirtual 94, 3) := by decide +kernel
theorem d_Co_set_31 : decode c_Co_set 31 = .ok (.return_, 1) := by decide +kernel
theorem d_Co_poke_0 : decode c_Co_poke 0 = .ok (.iload_n 1, 1) := by decide +kernel
theorem d_Co_poke_1 : decode c_Co_poke 1 = .ok (.ifCond .lt 9, 3) := by decide +kernel
theorem d_Co_poke_4 : decode c_Co_poke 4 = .ok (.iload_n 1, 1) := by decide +kernel
theorem d_Co_poke_5 : decode c_Co_poke 5 = .ok (.bipush 64, 2) := by decide +kernel
theorem d_Co_poke_7 : decode c_Co_poke 7 = .ok (.if_icmp .lt 13, 3) := by decide +kernel
theorem d_Co_poke_10 : decode c_Co_poke 10 = .ok (.new 70, 3) := by decide +kernel
theorem d_Co_poke_13 : decode c_Co_poke 13 = .ok (.dup, 1) := by decide +kernel
theorem d_Co_poke_14 : decode c_Co_poke 14 = .ok (.ldc 98, 2) := by decide +kernel
theorem d_Co_poke_16 : decode c_Co_poke 16 = .ok (.invokespecial 74, 3) := by decide +kernel
theorem d_Co_poke_19 : decode c_Co_poke 19 = .ok (.athrow, 1) := by decide +kernel
theorem d_Co_poke_20 : decode c_Co_poke 20 = .ok (.aload_n 0, 1) := by decide +kernel
theorem d_Co_poke_21 : decode c_Co_poke 21 = .ok (.getfield 22, 3) := by decide +kernel
theorem d_Co_poke_24 : decode c_Co_poke 24 = .ok (.iload_n 1, 1) := by decide +kernel
theorem d_Co_poke_25 : decode c_Co_poke 25 = .ok (.iload_n 2, 1) := by decide +kernel
theorem d_Co_poke_26 : decode c_Co_poke 26 = .ok (.iload_n 3, 1) := by decide +kernel
theorem d_Co_poke_27 : decode c_Co_poke 27 = .ok (.invokevirtual 94, 3) := by decide +kernel
theorem d_Co_poke_30 : decode c_Co_poke 30 = .ok (.return_, 1) := by decide +kernel
theorem d_Co_input_0 : decode c_Co_input 0 = .ok (.aload_n 0, 1) := by decide +kernel
theorem d_Co_input_1 : decode c_Co_input 1 = .ok (.getfield 28, 3) := by decide +kernel
theorem d_Co_input_4 : decode c_Co_input 4 = .ok (.invokevirtual 100, 3) := by decide +kernel
theorem d_Co_input_7 : decode c_Co_input 7 = .ok (.ifCond .eq 5, 3) := by decide +kernel
theorem d_Co_input_10 : decode c_Co_input 10 = .ok (.iconst (-1), 1) := by decide +kernel
theorem d_Co_input_11 : decode c_Co_input 11 = .ok (.ireturn, 1) := by decide +kernel
theorem d_Co_input_12 : decode c_Co_input 12 = .ok (.aload_n 0, 1) := by decide +kernel
theorem d_Co_input_13 : decode c_Co_input 13 = .ok (.getfield 28, 3) := by decide +kernel
theorem d_Co_input_16 : decode c_Co_input 16 = .ok (.iload_n 1, 1) := by decide +kernel
theorem d_Co_input_17 : decode c_Co_input 17 = .ok (.iload_n 2, 1) := by decide +kernel
theorem d_Co_input_18 : decode c_Co_input 18 = .ok (.invokevirtual 104, 3) := by decide +kernel
theorem d_Co_input_21 : decode c_Co_input 21 = .ok (.aload_n 0, 1) := by decide +kernel
theorem d_Co_input_22 : decode c_Co_input 22 = .ok (.getfield 28, 3) := by decide +kernel
theorem d_Co_input_25 : decode c_Co_input 25 = .ok (.invokevirtual 108, 3) := by decide +kernel
theorem d_Co_input_28 : decode c_Co_input 28 = .ok (.ireturn, 1) := by decide +kernel
theorem d_Co_run_0 : decode c_Co_run 0 = .ok (.iload_n 1, 1) := by decide +kernel
theorem d_Co_run_1 : decode c_Co_run 1 = .ok (.ifCond .lt 10, 3) := by decide +kernel
theorem d_Co_run_4 : decode c_Co_run 4 = .ok (.iload_n 1, 1) := by decide +kernel
theorem d_Co_run_5 : decode c_Co_run 5 = .ok (.sipush 1000, 3) := by decide +kernel
theorem d_Co_run_8 : decode c_Co_run 8 = .ok (.if_icmp .le 13, 3) := by decide +kernel
theorem d_Co_run_11 : decode c_Co_run 11 = .ok (.new 70, 3) := by decide +kernel
theorem d_Co_run_14 : decode c_Co_run 14 = .ok (.dup, 1) := by decide +kernel
theorem d_Co_run_15 : decode c_Co_run 15 = .ok (.ldc 112, 2) := by decide +kernel
theorem d_Co_run_17 : decode c_Co_run 17 = .ok (.invokespecial 74, 3) := by decide +kernel
theorem d_Co_run_20 : decode c_Co_run 20 = .ok (.athrow, 1) := by decide +kernel
theorem d_Co_run_21 : decode c_Co_run 21 = .ok (.iconst 0, 1) := by decide +kernel
theorem d_Co_run_22 : decode c_Co_run 22 = .ok (.istore_n 2, 1) := by decide +kernel
theorem d_Co_run_23 : decode c_Co_run 23 = .ok (.iload_n 2, 1) := by decide +kernel
theorem d_Co_run_24 : decode c_Co_run 24 = .ok (.iload_n 1, 1) := by decide +kernel
theorem d_Co_run_25 : decode c_Co_run 25 = .ok (.if_icmp .ge 16, 3) := by decide +kernel
theorem d_Co_run_28 : decode c_Co_run 28 = .ok (.aload_n 0, 1) := by decide +kernel
theorem d_Co_run_29 : decode c_Co_run 29 = .ok (.invokevirtual 114, 3) := by decide +kernel
theorem d_Co_run_32 : decode c_Co_run 32 = .ok (.ifCond .eq 9, 3) := by decide +kernel
theorem d_Co_run_35 : decode c_Co_run 35 = .ok (.iinc 2 1, 3) := by decide +kernel
theorem d_Co_run_38 : decode c_Co_run 38 = .ok (.goto (-15), 3) := by decide +kernel
theorem d_Co_run_41 : decode c_Co_run 41 = .ok (.iload_n 2, 1) := by decide +kernel
theorem d_Co_run_42 : decode c_Co_run 42 = .ok (.ireturn, 1) := by decide +kernel
theorem d_Co_register_0 : decode c_Co_register 0 = .ok (.iload_n 1, 1) := by decide +kernel
theorem d_Co_register_1 : decode c_Co_register 1 = .ok (.ifCond .lt 9, 3) := by decide +kernel
theorem d_Co_register_4 : decode c_Co_register 4 = .ok (.iload_n 1, 1) := by decide +kernel
theorem d_Co_register_5 : decode c_Co_register 5 = .ok (.bipush 32, 2) := by decide +kernel
theorem d_Co_register_7 : decode c_Co_register 7 = .ok (.if_icmp .lt 13, 3) := by decide +kernel
theorem d_Co_register_10 : decode c_Co_register 10 = .ok (.new 70, 3) := by decide +kernel
theorem d_Co_register_13 : decode c_Co_register 13 = .ok (.dup, 1) := by decide +kernel
theorem d_Co_register_14 : decode c_Co_register 14 = .ok (.ldc 117, 2) := by decide +kernel
theorem d_Co_register_16 : decode c_Co_register 16 = .ok (.invokespecial 74, 3) := by decide +kernel
theorem d_Co_register_19 : decode c_Co_register 19 = .ok (.athrow, 1) := by decide +kernel
theorem d_Co_register_20 : decode c_Co_register 20 = .ok (.aload_n 0, 1) := by decide +kernel
theorem d_Co_register_21 : decode c_Co_register 21 = .ok (.getfield 18, 3) := by decide +kernel
theorem d_Co_register_24 : decode c_Co_register 24 = .ok (.iload_n 1, 1) := by decide +kernel
theorem d_Co_register_25 : decode c_Co_register 25 = .ok (.invokevirtual 119, 3) := by decide +kernel
theorem d_Co_register_28 : decode c_Co_register 28 = .ok (.lreturn, 1) := by decide +kernel
theorem d_Co_memory_0 : decode c_Co_memory 0 = .ok (.iload_n 1, 1) := by decide +kernel
theorem d_Co_memory_1 : decode c_Co_memory 1 = .ok (.ifCond .lt 9, 3) := by decide +kernel
theorem d_Co_memory_4 : decode c_Co_memory 4 = .ok (.iload_n 1, 1) := by decide +kernel
theorem d_Co_memory_5 : decode c_Co_memory 5 = .ok (.bipush 64, 2) := by decide +kernel
theorem d_Co_memory_7 : decode c_Co_memory 7 = .ok (.if_icmp .lt 13, 3) := by decide +kernel
theorem d_Co_memory_10 : decode c_Co_memory 10 = .ok (.new 70, 3) := by decide +kernel
theorem d_Co_memory_13 : decode c_Co_memory 13 = .ok (.dup, 1) := by decide +kernel
theorem d_Co_memory_14 : decode c_Co_memory 14 = .ok (.ldc 98, 2) := by decide +kernel
theorem d_Co_memory_16 : decode c_Co_memory 16 = .ok (.invokespecial 74, 3) := by decide +kernel
theorem d_Co_memory_19 : decode c_Co_memory 19 = .ok (.athrow, 1) := by decide +kernel
theorem d_Co_memory_20 : decode c_Co_memory 20 = .ok (.aload_n 0, 1) := by decide +kernel
theorem d_Co_memory_21 : decode c_Co_memory 21 = .ok (.getfield 22, 3) := by decide +kernel
theorem d_Co_memory_24 : decode c_Co_memory 24 = .ok (.iload_n 1, 1) := by decide +kernel
theorem d_Co_memory_25 : decode c_Co_memory 25 = .ok (.invokevirtual 119, 3) := by decide +kernel
theorem d_Co_memory_28 : decode c_Co_memory 28 = .ok (.lreturn, 1) := by decide +kernel
theorem d_Co_output_0 : decode c_Co_output 0 = .ok (.iload_n 1, 1) := by decide +kernel
theorem d_Co_output_1 : decode c_Co_output 1 = .ok (.ifCond .lt 14, 3) := by decide +kernel
theorem d_Co_output_4 : decode c_Co_output 4 = .ok (.iload_n 1, 1) := by decide +kernel
theorem d_Co_output_5 : decode c_Co_output 5 = .ok (.aload_n 0, 1) := by decide +kernel
theorem d_Co_output_6 : decode c_Co_output 6 = .ok (.getfield 32, 3) := by decide +kernel
theorem d_Co_output_9 : decode c_Co_output 9 = .ok (.invokevirtual 108, 3) := by decide +kernel
theorem d_Co_output_12 : decode c_Co_output 12 = .ok (.if_icmp .lt 13, 3) := by decide +kernel
theorem d_Co_output_15 : decode c_Co_output 15 = .ok (.new 123, 3) := by decide +kernel
theorem d_Co_output_18 : decode c_Co_output 18 = .ok (.dup, 1) := by decide +kernel
theorem d_Co_output_19 : decode c_Co_output 19 = .ok (.ldc 125, 2) := by decide +kernel
theorem d_Co_output_21 : decode c_Co_output 21 = .ok (.invokespecial 127, 3) := by decide +kernel
theorem d_Co_output_24 : decode c_Co_output 24 = .ok (.athrow, 1) := by decide +kernel
theorem d_Co_output_25 : decode c_Co_output 25 = .ok (.aload_n 0, 1) := by decide +kernel
theorem d_Co_output_26 : decode c_Co_output 26 = .ok (.getfield 32, 3) := by decide +kernel
theorem d_Co_output_29 : decode c_Co_output 29 = .ok (.iload_n 1, 1) := by decide +kernel
theorem d_Co_output_30 : decode c_Co_output 30 = .ok (.invokevirtual 128, 3) := by decide +kernel
theorem d_Co_output_33 : decode c_Co_output 33 = .ok (.lreturn, 1) := by decide +kernel
theorem d_Co_told_0 : decode c_Co_told 0 = .ok (.iload_n 1, 1) := by decide +kernel
theorem d_Co_told_1 : decode c_Co_told 1 = .ok (.tableswitch 105 0 8 #[51, 56, 61, 66, 71, 76, 84, 92, 100], 51) := by decide +kernel
theorem d_Co_told_52 : decode c_Co_told 52 = .ok (.aload_n 0, 1) := by decide +kernel
theorem d_Co_told_53 : decode c_Co_told 53 = .ok (.getfield 129, 3) := by decide +kernel
theorem d_Co_told_56 : decode c_Co_told 56 = .ok (.ireturn, 1) := by decide +kernel
theorem d_Co_told_57 : decode c_Co_told 57 = .ok (.aload_n 0, 1) := by decide +kernel
theorem d_Co_told_58 : decode c_Co_told 58 = .ok (.getfield 132, 3) := by decide +kernel
theorem d_Co_told_61 : decode c_Co_told 61 = .ok (.ireturn, 1) := by decide +kernel
theorem d_Co_told_62 : decode c_Co_told 62 = .ok (.aload_n 0, 1) := by decide +kernel
theorem d_Co_told_63 : decode c_Co_told 63 = .ok (.getfield 135, 3) := by decide +kernel
theorem d_Co_told_66 : decode c_Co_told 66 = .ok (.ireturn, 1) := by decide +kernel
theorem d_Co_told_67 : decode c_Co_told 67 = .ok (.aload_n 0, 1) := by decide +kernel
theorem d_Co_told_68 : decode c_Co_told 68 = .ok (.getfield 138, 3) := by decide +kernel
theorem d_Co_told_71 : decode c_Co_told 71 = .ok (.ireturn, 1) := by decide +kernel
theorem d_Co_told_72 : decode c_Co_told 72 = .ok (.aload_n 0, 1) := by decide +kernel
theorem d_Co_told_73 : decode c_Co_told 73 = .ok (.getfield 141, 3) := by decide +kernel
theorem d_Co_told_76 : decode c_Co_told 76 = .ok (.ireturn, 1) := by decide +kernel
theorem d_Co_told_77 : decode c_Co_told 77 = .ok (.aload_n 0, 1) := by decide +kernel
theorem d_Co_told_78 : decode c_Co_told 78 = .ok (.getfield 45, 3) := by decide +kernel
theorem d_Co_told_81 : decode c_Co_told 81 = .ok (.invokevirtual 144, 3) := by decide +kernel
theorem d_Co_told_84 : decode c_Co_told 84 = .ok (.ireturn, 1) := by decide +kernel
theorem d_Co_told_85 : decode c_Co_told 85 = .ok (.aload_n 0, 1) := by decide +kernel
theorem d_Co_told_86 : decode c_Co_told 86 = .ok (.getfield 32, 3) := by decide +kernel
theorem d_Co_told_89 : decode c_Co_told 89 = .ok (.invokevirtual 108, 3) := by decide +kernel
theorem d_Co_told_92 : decode c_Co_told 92 = .ok (.ireturn, 1) := by decide +kernel
theorem d_Co_told_93 : decode c_Co_told 93 = .ok (.aload_n 0, 1) := by decide +kernel
theorem d_Co_told_94 : decode c_Co_told 94 = .ok (.getfield 28, 3) := by decide +kernel
theorem d_Co_told_97 : decode c_Co_told 97 = .ok (.invokevirtual 108, 3) := by decide +kernel
theorem d_Co_told_100 : decode c_Co_told 100 = .ok (.ireturn, 1) := by decide +kernel
theorem d_Co_told_101 : decode c_Co_told 101 = .ok (.aload_n 0, 1) := by decide +kernel
theorem d_Co_told_102 : decode c_Co_told 102 = .ok (.getfield 145, 3) := by decide +kernel
theorem d_Co_told_105 : decode c_Co_told 105 = .ok (.ireturn, 1) := by decide +kernel
theorem d_Co_told_106 : decode c_Co_told 106 = .ok (.new 70, 3) := by decide +kernel
theorem d_Co_told_109 : decode c_Co_told 109 = .ok (.dup, 1) := by decide +kernel
theorem d_Co_told_110 : decode c_Co_told 110 = .ok (.ldc 148, 2) := by decide +kernel
theorem d_Co_told_112 : decode c_Co_told 112 = .ok (.invokespecial 74, 3) := by decide +kernel
theorem d_Co_told_115 : decode c_Co_told 115 = .ok (.athrow, 1) := by decide +kernel
theorem d_Co_isMask_0 : decode c_Co_isMask 0 = .ok (.iload_n 0, 1) := by decide +kernel
theorem d_Co_isMask_1 : decode c_Co_isMask 1 = .ok (.ifCond .lt 13, 3) := by decide +kernel
theorem d_Co_isMask_4 : decode c_Co_isMask 4 = .ok (.iload_n 0, 1) := by decide +kernel
theorem d_Co_isMask_5 : decode c_Co_isMask 5 = .ok (.bipush 15, 2) := by decide +kernel
theorem d_Co_isMask_7 : decode c_Co_isMask 7 = .ok (.if_icmp .gt 7, 3) := by decide +kernel
theorem d_Co_isMask_10 : decode c_Co_isMask 10 = .ok (.iconst 1, 1) := by decide +kernel
theorem d_Co_isMask_11 : decode c_Co_isMask 11 = .ok (.goto 4, 3) := by decide +kernel
theorem d_Co_isMask_14 : decode c_Co_isMask 14 = .ok (.iconst 0, 1) := by decide +kernel
theorem d_Co_isMask_15 : decode c_Co_isMask 15 = .ok (.ireturn, 1) := by decide +kernel
theorem d_Co_startAnew_0 : decode c_Co_startAnew 0 = .ok (.aload_n 0, 1) := by decide +kernel
theorem d_Co_startAnew_1 : decode c_Co_startAnew 1 = .ok (.getfield 18, 3) := by decide +kernel
theorem d_Co_startAnew_4 : decode c_Co_startAnew 4 = .ok (.invokevirtual 150, 3) := by decide +kernel
theorem d_Co_startAnew_7 : decode c_Co_startAnew 7 = .ok (.aload_n 0, 1) := by decide +kernel
theorem d_Co_startAnew_8 : decode c_Co_startAnew 8 = .ok (.getfield 22, 3) := by decide +kernel
theorem d_Co_startAnew_11 : decode c_Co_startAnew 11 = .ok (.invokevirtual 150, 3) := by decide +kernel
theorem d_Co_startAnew_14 : decode c_Co_startAnew 14 = .ok (.aload_n 0, 1) := by decide +kernel
theorem d_Co_startAnew_15 : decode c_Co_startAnew 15 = .ok (.getfield 28, 3) := by decide +kernel
theorem d_Co_startAnew_18 : decode c_Co_startAnew 18 = .ok (.invokevirtual 151, 3) := by decide +kernel
theorem d_Co_startAnew_21 : decode c_Co_startAnew 21 = .ok (.aload_n 0, 1) := by decide +kernel
theorem d_Co_startAnew_22 : decode c_Co_startAnew 22 = .ok (.getfield 32, 3) := by decide +kernel
theorem d_Co_startAnew_25 : decode c_Co_startAnew 25 = .ok (.invokevirtual 151, 3) := by decide +kernel
theorem d_Co_startAnew_28 : decode c_Co_startAnew 28 = .ok (.aload_n 0, 1) := by decide +kernel
theorem d_Co_startAnew_29 : decode c_Co_startAnew 29 = .ok (.getfield 45, 3) := by decide +kernel
theorem d_Co_startAnew_32 : decode c_Co_startAnew 32 = .ok (.invokevirtual 83, 3) := by decide +kernel
theorem d_Co_startAnew_35 : decode c_Co_startAnew 35 = .ok (.aload_n 0, 1) := by decide +kernel
theorem d_Co_startAnew_36 : decode c_Co_startAnew 36 = .ok (.iconst 0, 1) := by decide +kernel
theorem d_Co_startAnew_37 : decode c_Co_startAnew 37 = .ok (.putfield 129, 3) := by decide +kernel
theorem d_Co_startAnew_40 : decode c_Co_startAnew 40 = .ok (.aload_n 0, 1) := by decide +kernel
theorem d_Co_startAnew_41 : decode c_Co_startAnew 41 = .ok (.iconst 0, 1) := by decide +kernel
theorem d_Co_startAnew_42 : decode c_Co_startAnew 42 = .ok (.putfield 132, 3) := by decide +kernel
theorem d_Co_startAnew_45 : decode c_Co_startAnew 45 = .ok (.aload_n 0, 1) := by decide +kernel
theorem d_Co_startAnew_46 : decode c_Co_startAnew 46 = .ok (.iconst 0, 1) := by decide +kernel
theorem d_Co_startAnew_47 : decode c_Co_startAnew 47 = .ok (.putfield 135, 3) := by decide +kernel
theorem d_Co_startAnew_50 : decode c_Co_startAnew 50 = .ok (.aload_n 0, 1) := by decide +kernel
theorem d_Co_startAnew_51 : decode c_Co_startAnew 51 = .ok (.iconst 0, 1) := by decide +kernel
theorem d_Co_startAnew_52 : decode c_Co_startAnew 52 = .ok (.putfield 138, 3) := by decide +kernel
theorem d_Co_startAnew_55 : decode c_Co_startAnew 55 = .ok (.aload_n 0, 1) := by decide +kernel
theorem d_Co_startAnew_56 : decode c_Co_startAnew 56 = .ok (.iconst 0, 1) := by decide +kernel
theorem d_Co_startAnew_57 : decode c_Co_startAnew 57 = .ok (.putfield 141, 3) := by decide +kernel
theorem d_Co_startAnew_60 : decode c_Co_startAnew 60 = .ok (.aload_n 0, 1) := by decide +kernel
theorem d_Co_startAnew_61 : decode c_Co_startAnew 61 = .ok (.iconst 0, 1) := by decide +kernel
theorem d_Co_startAnew_62 : decode c_Co_startAnew 62 = .ok (.putfield 145, 3) := by decide +kernel
theorem d_Co_startAnew_65 : decode c_Co_startAnew 65 = .ok (.return_, 1) := by decide +kernel
theorem d_Co_step_0 : decode c_Co_step 0 = .ok (.aload_n 0, 1) := by decide +kernel
theorem d_Co_step_1 : decode c_Co_step 1 = .ok (.getfield 129, 3) := by decide +kernel
theorem d_Co_step_4 : decode c_Co_step 4 = .ok (.ifCond .eq 5, 3) := by decide +kernel
theorem d_Co_step_7 : decode c_Co_step 7 = .ok (.iconst 0, 1) := by decide +kernel
theorem d_Co_step_8 : decode c_Co_step 8 = .ok (.ireturn, 1) := by decide +kernel
theorem d_Co_step_9 : decode c_Co_step 9 = .ok (.aload_n 0, 1) := by decide +kernel
theorem d_Co_step_10 : decode c_Co_step 10 = .ok (.getfield 132, 3) := by decide +kernel
theorem d_Co_step_13 : decode c_Co_step 13 = .ok (.iconst 2, 1) := by decide +kernel
theorem d_Co_step_14 : decode c_Co_step 14 = .ok (.iushr, 1) := by decide +kernel
theorem d_Co_step_15 : decode c_Co_step 15 = .ok (.istore_n 1, 1) := by decide +kernel
theorem d_Co_step_16 : decode c_Co_step 16 = .ok (.aload_n 0, 1) := by decide +kernel
theorem d_Co_step_17 : decode c_Co_step 17 = .ok (.getfield 132, 3) := by decide +kernel
theorem d_Co_step_20 : decode c_Co_step 20 = .ok (.iconst 3, 1) := by decide +kernel
theorem d_Co_step_21 : decode c_Co_step 21 = .ok (.iand, 1) := by decide +kernel
theorem d_Co_step_22 : decode c_Co_step 22 = .ok (.ifCond .ne 11, 3) := by decide +kernel
theorem d_Co_step_25 : decode c_Co_step 25 = .ok (.iload_n 1, 1) := by decide +kernel
theorem d_Co_step_26 : decode c_Co_step 26 = .ok (.aload_n 0, 1) := by decide +kernel
theorem d_Co_step_27 : decode c_Co_step 27 = .ok (.getfield 63, 3) := by decide +kernel
theorem d_Co_step_30 : decode c_Co_step 30 = .ok (.if_icmp .lt 9, 3) := by decide +kernel
theorem d_Co_step_33 : decode c_Co_step 33 = .ok (.aload_n 0, 1) := by decide +kernel
theorem d_Co_step_34 : decode c_Co_step 34 = .ok (.iconst 4, 1) := by decide +kernel
theorem d_Co_step_35 : decode c_Co_step 35 = .ok (.invokevirtual 152, 3) := by decide +kernel
theorem d_Co_step_38 : decode c_Co_step 38 = .ok (.ireturn, 1) := by decide +kernel
theorem d_Co_step_39 : decode c_Co_step 39 = .ok (.aload_n 0, 1) := by decide +kernel
theorem d_Co_step_40 : decode c_Co_step 40 = .ok (.getfield 9, 3) := by decide +kernel
theorem d_Co_step_43 : decode c_Co_step 43 = .ok (.iload_n 1, 1) := by decide +kernel
theorem d_Co_step_44 : decode c_Co_step 44 = .ok (.iaload, 1) := by decide +kernel
theorem d_Co_step_45 : decode c_Co_step 45 = .ok (.istore_n 2, 1) := by decide +kernel
theorem d_Co_step_46 : decode c_Co_step 46 = .ok (.iload_n 2, 1) := by decide +kernel
theorem d_Co_step_47 : decode c_Co_step 47 = .ok (.invokestatic 155, 3) := by decide +kernel
theorem d_Co_step_50 : decode c_Co_step 50 = .ok (.istore_n 3, 1) := by decide +kernel
theorem d_Co_step_51 : decode c_Co_step 51 = .ok (.iload_n 3, 1) := by decide +kernel
theorem d_Co_step_52 : decode c_Co_step 52 = .ok (.bipush 10, 2) := by decide +kernel
theorem d_Co_step_54 : decode c_Co_step 54 = .ok (.if_icmp .ne 9, 3) := by decide +kernel
theorem d_Co_step_57 : decode c_Co_step 57 = .ok (.aload_n 0, 1) := by decide +kernel
theorem d_Co_step_58 : decode c_Co_step 58 = .ok (.iconst 3, 1) := by decide +kernel
theorem d_Co_step_59 : decode c_Co_step 59 = .ok (.invokevirtual 152, 3) := by decide +kernel
theorem d_Co_step_62 : decode c_Co_step 62 = .ok (.ireturn, 1) := by decide +kernel
theorem d_Co_step_63 : decode c_Co_step 63 = .ok (.iload_n 3, 1) := by decide +kernel
theorem d_Co_step_64 : decode c_Co_step 64 = .ok (.bipush 9, 2) := by decide +kernel
theorem d_Co_step_66 : decode c_Co_step 66 = .ok (.if_icmp .ne 9, 3) := by decide +kernel
theorem d_Co_step_69 : decode c_Co_step 69 = .ok (.aload_n 0, 1) := by decide +kernel
theorem d_Co_step_70 : decode c_Co_step 70 = .ok (.iconst 1, 1) := by decide +kernel
theorem d_Co_step_71 : decode c_Co_step 71 = .ok (.invokevirtual 152, 3) := by decide +kernel
theorem d_Co_step_74 : decode c_Co_step 74 = .ok (.ireturn, 1) := by decide +kernel
theorem d_Co_step_75 : decode c_Co_step 75 = .ok (.aload_n 0, 1) := by decide +kernel
theorem d_Co_step_76 : decode c_Co_step 76 = .ok (.iload_n 2, 1) := by decide +kernel
theorem d_Co_step_77 : decode c_Co_step 77 = .ok (.iload_n 3, 1) := by decide +kernel
theorem d_Co_step_78 : decode c_Co_step 78 = .ok (.invokevirtual 160, 3) := by decide +kernel
theorem d_Co_step_81 : decode c_Co_step 81 = .ok (.istore 4, 2) := by decide +kernel
theorem d_Co_step_83 : decode c_Co_step 83 = .ok (.iload_n 3, 1) := by decide +kernel
theorem d_Co_step_84 : decode c_Co_step 84 = .ok (.invokestatic 164, 3) := by decide +kernel
theorem d_Co_step_87 : decode c_Co_step 87 = .ok (.ifCond .eq 21, 3) := by decide +kernel
theorem d_Co_step_90 : decode c_Co_step 90 = .ok (.iload 4, 2) := by decide +kernel
theorem d_Co_step_92 : decode c_Co_step 92 = .ok (.iload_n 2, 1) := by decide +kernel
theorem d_Co_step_93 : decode c_Co_step 93 = .ok (.invokestatic 167, 3) := by decide +kernel
theorem d_Co_step_96 : decode c_Co_step 96 = .ok (.invokestatic 170, 3) := by decide +kernel
theorem d_Co_step_99 : decode c_Co_step 99 = .ok (.ifCond .ne 9, 3) := by decide +kernel
theorem d_Co_step_102 : decode c_Co_step 102 = .ok (.aload_n 0, 1) := by decide +kernel
theorem d_Co_step_103 : decode c_Co_step 103 = .ok (.iconst 5, 1) := by decide +kernel
theorem d_Co_step_104 : decode c_Co_step 104 = .ok (.invokevirtual 152, 3) := by decide +kernel
theorem d_Co_step_107 : decode c_Co_step 107 = .ok (.ireturn, 1) := by decide +kernel
theorem d_Co_step_108 : decode c_Co_step 108 = .ok (.aload_n 0, 1) := by decide +kernel
theorem d_Co_step_109 : decode c_Co_step 109 = .ok (.iload_n 3, 1) := by decide +kernel
theorem d_Co_step_110 : decode c_Co_step 110 = .ok (.invokevirtual 174, 3) := by decide +kernel
theorem d_Co_step_113 : decode c_Co_step 113 = .ok (.ifCond .eq 5, 3) := by decide +kernel
theorem d_Co_step_116 : decode c_Co_step 116 = .ok (.iconst 0, 1) := by decide +kernel
theorem d_Co_step_117 : decode c_Co_step 117 = .ok (.ireturn, 1) := by decide +kernel
theorem d_Co_step_118 : decode c_Co_step 118 = .ok (.aload_n 0, 1) := by decide +kernel
theorem d_Co_step_119 : decode c_Co_step 119 = .ok (.iload_n 2, 1) := by decide +kernel
theorem d_Co_step_120 : decode c_Co_step 120 = .ok (.iload_n 3, 1) := by decide +kernel
theorem d_Co_step_121 : decode c_Co_step 121 = .ok (.iload 4, 2) := by decide +kernel
theorem d_Co_step_123 : decode c_Co_step 123 = .ok (.invokevirtual 177, 3) := by decide +kernel
theorem d_Co_step_126 : decode c_Co_step 126 = .ok (.aload_n 0, 1) := by decide +kernel
theorem d_Co_step_127 : decode c_Co_step 127 = .ok (.invokevirtual 180, 3) := by decide +kernel
theorem d_Co_step_130 : decode c_Co_step 130 = .ok (.ifCond .ne 9, 3) := by decide +kernel
theorem d_Co_step_133 : decode c_Co_step 133 = .ok (.aload_n 0, 1) := by decide +kernel
theorem d_Co_step_134 : decode c_Co_step 134 = .ok (.iconst 2, 1) := by decide +kernel
theorem d_Co_step_135 : decode c_Co_step 135 = .ok (.invokevirtual 152, 3) := by decide +kernel
theorem d_Co_step_138 : decode c_Co_step 138 = .ok (.ireturn, 1) := by decide +kernel
theorem d_Co_step_139 : decode c_Co_step 139 = .ok (.aload_n 0, 1) := by decide +kernel
theorem d_Co_step_140 : decode c_Co_step 140 = .ok (.iload_n 2, 1) := by decide +kernel
theorem d_Co_step_141 : decode c_Co_step 141 = .ok (.iload_n 3, 1) := by decide +kernel
theorem d_Co_step_142 : decode c_Co_step 142 = .ok (.iload 4, 2) := by decide +kernel
theorem d_Co_step_144 : decode c_Co_step 144 = .ok (.invokevirtual 183, 3) := by decide +kernel
theorem d_Co_step_147 : decode c_Co_step 147 = .ok (.aload_n 0, 1) := by decide +kernel
theorem d_Co_step_148 : decode c_Co_step 148 = .ok (.dup, 1) := by decide +kernel
theorem d_Co_step_149 : decode c_Co_step 149 = .ok (.getfield 138, 3) := by decide +kernel
theorem d_Co_step_152 : decode c_Co_step 152 = .ok (.iconst 1, 1) := by decide +kernel
theorem d_Co_step_153 : decode c_Co_step 153 = .ok (.iadd, 1) := by decide +kernel
theorem d_Co_step_154 : decode c_Co_step 154 = .ok (.putfield 138, 3) := by decide +kernel
theorem d_Co_step_157 : decode c_Co_step 157 = .ok (.iconst 1, 1) := by decide +kernel
theorem d_Co_step_158 : decode c_Co_step 158 = .ok (.ireturn, 1) := by decide +kernel
theorem d_Co_end_0 : decode c_Co_end 0 = .ok (.aload_n 0, 1) := by decide +kernel
theorem d_Co_end_1 : decode c_Co_end 1 = .ok (.iload_n 1, 1) := by decide +kernel
theorem d_Co_end_2 : decode c_Co_end 2 = .ok (.putfield 129, 3) := by decide +kernel
theorem d_Co_end_5 : decode c_Co_end 5 = .ok (.iconst 0, 1) := by decide +kernel
theorem d_Co_end_6 : decode c_Co_end 6 = .ok (.ireturn, 1) := by decide +kernel
theorem d_Co_addressOf_0 : decode c_Co_addressOf 0 = .ok (.iload_n 2, 1) := by decide +kernel
theorem d_Co_addressOf_1 : decode c_Co_addressOf 1 = .ok (.iconst 1, 1) := by decide +kernel
theorem d_Co_addressOf_2 : decode c_Co_addressOf 2 = .ok (.if_icmp .ne 10, 3) := by decide +kernel
theorem d_Co_addressOf_5 : decode c_Co_addressOf 5 = .ok (.iload_n 1, 1) := by decide +kernel
theorem d_Co_addressOf_6 : decode c_Co_addressOf 6 = .ok (.invokestatic 186, 3) := by decide +kernel
theorem d_Co_addressOf_9 : decode c_Co_addressOf 9 = .ok (.goto 7, 3) := by decide +kernel
theorem d_Co_addressOf_12 : decode c_Co_addressOf 12 = .ok (.iload_n 1, 1) := by decide +kernel
theorem d_Co_addressOf_13 : decode c_Co_addressOf 13 = .ok (.invokestatic 189, 3) := by decide +kernel
theorem d_Co_addressOf_16 : decode c_Co_addressOf 16 = .ok (.istore_n 3, 1) := by decide +kernel
theorem d_Co_addressOf_17 : decode c_Co_addressOf 17 = .ok (.aload_n 0, 1) := by decide +kernel
theorem d_Co_addressOf_18 : decode c_Co_addressOf 18 = .ok (.getfield 18, 3) := by decide +kernel
theorem d_Co_addressOf_21 : decode c_Co_addressOf 21 = .ok (.iload_n 1, 1) := by decide +kernel
theorem d_Co_addressOf_22 : decode c_Co_addressOf 22 = .ok (.invokestatic 192, 3) := by decide +kernel
theorem d_Co_addressOf_25 : decode c_Co_addressOf 25 = .ok (.invokevirtual 195, 3) := by decide +kernel
theorem d_Co_addressOf_28 : decode c_Co_addressOf 28 = .ok (.iload_n 3, 1) := by decide +kernel
theorem d_Co_addressOf_29 : decode c_Co_addressOf 29 = .ok (.iadd, 1) := by decide +kernel
theorem d_Co_addressOf_30 : decode c_Co_addressOf 30 = .ok (.ireturn, 1) := by decide +kernel
theorem d_Co_liesInMemory_0 : decode c_Co_liesInMemory 0 = .ok (.iload_n 0, 1) := by decide +kernel
theorem d_Co_liesInMemory_1 : decode c_Co_liesInMemory 1 = .ok (.sipush 4096, 3) := by decide +kernel
theorem d_Co_liesInMemory_4 : decode c_Co_liesInMemory 4 = .ok (.if_icmp .lt 14, 3) := by decide +kernel
theorem d_Co_liesInMemory_7 : decode c_Co_liesInMemory 7 = .ok (.iload_n 0, 1) := by decide +kernel
theorem d_Co_liesInMemory_8 : decode c_Co_liesInMemory 8 = .ok (.sipush 4352, 3) := by decide +kernel
theorem d_Co_liesInMemory_11 : decode c_Co_liesInMemory 11 = .ok (.if_icmp .ge 7, 3) := by decide +kernel
theorem d_Co_liesInMemory_14 : decode c_Co_liesInMemory 14 = .ok (.iconst 1, 1) := by decide +kernel
theorem d_Co_liesInMemory_15 : decode c_Co_liesInMemory 15 = .ok (.goto 4, 3) := by decide +kernel
theorem d_Co_liesInMemory_18 : decode c_Co_liesInMemory 18 = .ok (.iconst 0, 1) := by decide +kernel
theorem d_Co_liesInMemory_19 : decode c_Co_liesInMemory 19 = .ok (.istore_n 2, 1) := by decide +kernel
theorem d_Co_liesInMemory_20 : decode c_Co_liesInMemory 20 = .ok (.iload_n 2, 1) := by decide +kernel
theorem d_Co_liesInMemory_21 : decode c_Co_liesInMemory 21 = .ok (.ifCond .eq 17, 3) := by decide +kernel
theorem d_Co_liesInMemory_24 : decode c_Co_liesInMemory 24 = .ok (.iload_n 1, 1) := by decide +kernel
theorem d_Co_liesInMemory_25 : decode c_Co_liesInMemory 25 = .ok (.ifCond .eq 9, 3) := by decide +kernel
theorem d_Co_liesInMemory_28 : decode c_Co_liesInMemory 28 = .ok (.iload_n 0, 1) := by decide +kernel
theorem d_Co_liesInMemory_29 : decode c_Co_liesInMemory 29 = .ok (.iconst 3, 1) := by decide +kernel
theorem d_Co_liesInMemory_30 : decode c_Co_liesInMemory 30 = .ok (.iand, 1) := by decide +kernel
theorem d_Co_liesInMemory_31 : decode c_Co_liesInMemory 31 = .ok (.ifCond .ne 7, 3) := by decide +kernel
theorem d_Co_liesInMemory_34 : decode c_Co_liesInMemory 34 = .ok (.iconst 1, 1) := by decide +kernel
theorem d_Co_liesInMemory_35 : decode c_Co_liesInMemory 35 = .ok (.goto 4, 3) := by decide +kernel
theorem d_Co_liesInMemory_38 : decode c_Co_liesInMemory 38 = .ok (.iconst 0, 1) := by decide +kernel
theorem d_Co_liesInMemory_39 : decode c_Co_liesInMemory 39 = .ok (.ireturn, 1) := by decide +kernel
theorem d_Co_placeOf_0 : decode c_Co_placeOf 0 = .ok (.iload_n 0, 1) := by decide +kernel
theorem d_Co_placeOf_1 : decode c_Co_placeOf 1 = .ok (.sipush 4096, 3) := by decide +kernel
theorem d_Co_placeOf_4 : decode c_Co_placeOf 4 = .ok (.isub, 1) := by decide +kernel
theorem d_Co_placeOf_5 : decode c_Co_placeOf 5 = .ok (.iconst 2, 1) := by decide +kernel
theorem d_Co_placeOf_6 : decode c_Co_placeOf 6 = .ok (.ishr, 1) := by decide +kernel
theorem d_Co_placeOf_7 : decode c_Co_placeOf 7 = .ok (.ireturn, 1) := by decide +kernel
theorem d_Co_mustWait_0 : decode c_Co_mustWait 0 = .ok (.iload_n 1, 1) := by decide +kernel
theorem d_Co_mustWait_1 : decode c_Co_mustWait 1 = .ok (.bipush 7, 2) := by decide +kernel
theorem d_Co_mustWait_3 : decode c_Co_mustWait 3 = .ok (.if_icmp .ne 13, 3) := by decide +kernel
theorem d_Co_mustWait_6 : decode c_Co_mustWait 6 = .ok (.aload_n 0, 1) := by decide +kernel
theorem d_Co_mustWait_7 : decode c_Co_mustWait 7 = .ok (.getfield 32, 3) := by decide +kernel
theorem d_Co_mustWait_10 : decode c_Co_mustWait 10 = .ok (.invokevirtual 100, 3) := by decide +kernel
theorem d_Co_mustWait_13 : decode c_Co_mustWait 13 = .ok (.ifCond .ne 19, 3) := by decide +kernel
theorem d_Co_mustWait_16 : decode c_Co_mustWait 16 = .ok (.iload_n 1, 1) := by decide +kernel
theorem d_Co_mustWait_17 : decode c_Co_mustWait 17 = .ok (.bipush 8, 2) := by decide +kernel
theorem d_Co_mustWait_19 : decode c_Co_mustWait 19 = .ok (.if_icmp .ne 17, 3) := by decide +kernel
theorem d_Co_mustWait_22 : decode c_Co_mustWait 22 = .ok (.aload_n 0, 1) := by decide +kernel
theorem d_Co_mustWait_23 : decode c_Co_mustWait 23 = .ok (.getfield 28, 3) := by decide +kernel
theorem d_Co_mustWait_26 : decode c_Co_mustWait 26 = .ok (.invokevirtual 108, 3) := by decide +kernel
theorem d_Co_mustWait_29 : decode c_Co_mustWait 29 = .ok (.ifCond .ne 7, 3) := by decide +kernel
theorem d_Co_mustWait_32 : decode c_Co_mustWait 32 = .ok (.iconst 1, 1) := by decide +kernel
theorem d_Co_mustWait_33 : decode c_Co_mustWait 33 = .ok (.goto 4, 3) := by decide +kernel
theorem d_Co_mustWait_36 : decode c_Co_mustWait 36 = .ok (.iconst 0, 1) := by decide +kernel
theorem d_Co_mustWait_37 : decode c_Co_mustWait 37 = .ok (.ireturn, 1) := by decide +kernel
theorem d_Co_ask_0 : decode c_Co_ask 0 = .ok (.aload_n 0, 1) := by decide +kernel
theorem d_Co_ask_1 : decode c_Co_ask 1 = .ok (.getfield 52, 3) := by decide +kernel
theorem d_Co_ask_4 : decode c_Co_ask 4 = .ok (.iload_n 2, 1) := by decide +kernel
theorem d_Co_ask_5 : decode c_Co_ask 5 = .ok (.putfield 198, 3) := by decide +kernel
theorem d_Co_ask_8 : decode c_Co_ask 8 = .ok (.aload_n 0, 1) := by decide +kernel
theorem d_Co_ask_9 : decode c_Co_ask 9 = .ok (.getfield 52, 3) := by decide +kernel
theorem d_Co_ask_12 : decode c_Co_ask 12 = .ok (.aload_n 0, 1) := by decide +kernel
theorem d_Co_ask_13 : decode c_Co_ask 13 = .ok (.getfield 135, 3) := by decide +kernel
theorem d_Co_ask_16 : decode c_Co_ask 16 = .ok (.putfield 201, 3) := by decide +kernel
theorem d_Co_ask_19 : decode c_Co_ask 19 = .ok (.aload_n 0, 1) := by decide +kernel
theorem d_Co_ask_20 : decode c_Co_ask 20 = .ok (.getfield 52, 3) := by decide +kernel
theorem d_Co_ask_23 : decode c_Co_ask 23 = .ok (.iload_n 1, 1) := by decide +kernel
theorem d_Co_ask_24 : decode c_Co_ask 24 = .ok (.invokestatic 204, 3) := by decide +kernel
theorem d_Co_ask_27 : decode c_Co_ask 27 = .ok (.ifCond .eq 17, 3) := by decide +kernel
theorem d_Co_ask_30 : decode c_Co_ask 30 = .ok (.aload_n 0, 1) := by decide +kernel
theorem d_Co_ask_31 : decode c_Co_ask 31 = .ok (.getfield 18, 3) := by decide +kernel
theorem d_Co_ask_34 : decode c_Co_ask 34 = .ok (.iload_n 1, 1) := by decide +kernel
theorem d_Co_ask_35 : decode c_Co_ask 35 = .ok (.invokestatic 192, 3) := by decide +kernel
theorem d_Co_ask_38 : decode c_Co_ask 38 = .ok (.invokevirtual 207, 3) := by decide +kernel
theorem d_Co_ask_41 : decode c_Co_ask 41 = .ok (.goto 4, 3) := by decide +kernel
theorem d_Co_ask_44 : decode c_Co_ask 44 = .ok (.iconst 0, 1) := by decide +kernel
theorem d_Co_ask_45 : decode c_Co_ask 45 = .ok (.putfield 210, 3) := by decide +kernel
theorem d_Co_ask_48 : decode c_Co_ask 48 = .ok (.aload_n 0, 1) := by decide +kernel
theorem d_Co_ask_49 : decode c_Co_ask 49 = .ok (.getfield 52, 3) := by decide +kernel
theorem d_Co_ask_52 : decode c_Co_ask 52 = .ok (.iload_n 1, 1) := by decide +kernel
theorem d_Co_ask_53 : decode c_Co_ask 53 = .ok (.invokestatic 213, 3) := by decide +kernel
theorem d_Co_ask_56 : decode c_Co_ask 56 = .ok (.ifCond .eq 17, 3) := by decide +kernel
theorem d_Co_ask_59 : decode c_Co_ask 59 = .ok (.aload_n 0, 1) := by decide +kernel
theorem d_Co_ask_60 : decode c_Co_ask 60 = .ok (.getfield 18, 3) := by decide +kernel
theorem d_Co_ask_63 : decode c_Co_ask 63 = .ok (.iload_n 1, 1) := by decide +kernel
theorem d_Co_ask_64 : decode c_Co_ask 64 = .ok (.invokestatic 216, 3) := by decide +kernel
theorem d_Co_ask_67 : decode c_Co_ask 67 = .ok (.invokevirtual 207, 3) := by decide +kernel
theorem d_Co_ask_70 : decode c_Co_ask 70 = .ok (.goto 4, 3) := by decide +kernel
theorem d_Co_ask_73 : decode c_Co_ask 73 = .ok (.iconst 0, 1) := by decide +kernel
theorem d_Co_ask_74 : decode c_Co_ask 74 = .ok (.putfield 219, 3) := by decide +kernel
theorem d_Co_ask_77 : decode c_Co_ask 77 = .ok (.aload_n 0, 1) := by decide +kernel
theorem d_Co_ask_78 : decode c_Co_ask 78 = .ok (.getfield 52, 3) := by decide +kernel
theorem d_Co_ask_81 : decode c_Co_ask 81 = .ok (.iconst 0, 1) := by decide +kernel
theorem d_Co_ask_82 : decode c_Co_ask 82 = .ok (.putfield 222, 3) := by decide +kernel
theorem d_Co_ask_85 : decode c_Co_ask 85 = .ok (.iload_n 2, 1) := by decide +kernel
theorem d_Co_ask_86 : decode c_Co_ask 86 = .ok (.invokestatic 164, 3) := by decide +kernel
theorem d_Co_ask_89 : decode c_Co_ask 89 = .ok (.ifCond .eq 24, 3) := by decide +kernel
theorem d_Co_ask_92 : decode c_Co_ask 92 = .ok (.aload_n 0, 1) := by decide +kernel
theorem d_Co_ask_93 : decode c_Co_ask 93 = .ok (.getfield 52, 3) := by decide +kernel
theorem d_Co_ask_96 : decode c_Co_ask 96 = .ok (.aload_n 0, 1) := by decide +kernel
theorem d_Co_ask_97 : decode c_Co_ask 97 = .ok (.getfield 22, 3) := by decide +kernel
theorem d_Co_ask_100 : decode c_Co_ask 100 = .ok (.iload_n 3, 1) := by decide +kernel
theorem d_Co_ask_101 : decode c_Co_ask 101 = .ok (.invokestatic 225, 3) := by decide +kernel
theorem d_Co_ask_104 : decode c_Co_ask 104 = .ok (.invokevirtual 207, 3) := by decide +kernel
theorem d_Co_ask_107 : decode c_Co_ask 107 = .ok (.putfield 222, 3) := by decide +kernel
theorem d_Co_ask_110 : decode c_Co_ask 110 = .ok (.goto 23, 3) := by decide +kernel
theorem d_Co_ask_113 : decode c_Co_ask 113 = .ok (.iload_n 2, 1) := by decide +kernel
theorem d_Co_ask_114 : decode c_Co_ask 114 = .ok (.bipush 8, 2) := by decide +kernel
theorem d_Co_ask_116 : decode c_Co_ask 116 = .ok (.if_icmp .ne 17, 3) := by decide +kernel
theorem d_Co_ask_119 : decode c_Co_ask 119 = .ok (.aload_n 0, 1) := by decide +kernel
theorem d_Co_ask_120 : decode c_Co_ask 120 = .ok (.getfield 52, 3) := by decide +kernel
theorem d_Co_ask_123 : decode c_Co_ask 123 = .ok (.aload_n 0, 1) := by decide +kernel
theorem d_Co_ask_124 : decode c_Co_ask 124 = .ok (.getfield 28, 3) := by decide +kernel
theorem d_Co_ask_127 : decode c_Co_ask 127 = .ok (.invokevirtual 228, 3) := by decide +kernel
theorem d_Co_ask_130 : decode c_Co_ask 130 = .ok (.putfield 222, 3) := by decide +kernel
theorem d_Co_ask_133 : decode c_Co_ask 133 = .ok (.return_, 1) := by decide +kernel
theorem d_Co_isAllowed_0 : decode c_Co_isAllowed 0 = .ok (.aload_n 0, 1) := by decide +kernel
theorem d_Co_isAllowed_1 : decode c_Co_isAllowed 1 = .ok (.getfield 45, 3) := by decide +kernel
theorem d_Co_isAllowed_4 : decode c_Co_isAllowed 4 = .ok (.aload_n 0, 1) := by decide +kernel
theorem d_Co_isAllowed_5 : decode c_Co_isAllowed 5 = .ok (.getfield 52, 3) := by decide +kernel
theorem d_Co_isAllowed_8 : decode c_Co_isAllowed 8 = .ok (.invokevirtual 231, 3) := by decide +kernel
theorem d_Co_isAllowed_11 : decode c_Co_isAllowed 11 = .ok (.istore_n 1, 1) := by decide +kernel
theorem d_Co_isAllowed_12 : decode c_Co_isAllowed 12 = .ok (.iload_n 1, 1) := by decide +kernel
theorem d_Co_isAllowed_13 : decode c_Co_isAllowed 13 = .ok (.iconst (-1), 1) := by decide +kernel
theorem d_Co_isAllowed_14 : decode c_Co_isAllowed 14 = .ok (.if_icmp .ne 8, 3) := by decide +kernel
theorem d_Co_isAllowed_17 : decode c_Co_isAllowed 17 = .ok (.aload_n 0, 1) := by decide +kernel
theorem d_Co_isAllowed_18 : decode c_Co_isAllowed 18 = .ok (.invokevirtual 235, 3) := by decide +kernel
theorem d_Co_isAllowed_21 : decode c_Co_isAllowed 21 = .ok (.ireturn, 1) := by decide +kernel
theorem d_Co_isAllowed_22 : decode c_Co_isAllowed 22 = .ok (.aload_n 0, 1) := by decide +kernel
theorem d_Co_isAllowed_23 : decode c_Co_isAllowed 23 = .ok (.aload_n 0, 1) := by decide +kernel
theorem d_Co_isAllowed_24 : decode c_Co_isAllowed 24 = .ok (.getfield 45, 3) := by decide +kernel
theorem d_Co_isAllowed_27 : decode c_Co_isAllowed 27 = .ok (.iload_n 1, 1) := by decide +kernel
theorem d_Co_isAllowed_28 : decode c_Co_isAllowed 28 = .ok (.invokevirtual 238, 3) := by decide +kernel
theorem d_Co_isAllowed_31 : decode c_Co_isAllowed 31 = .ok (.putfield 241, 3) := by decide +kernel
theorem d_Co_isAllowed_34 : decode c_Co_isAllowed 34 = .ok (.aload_n 0, 1) := by decide +kernel
theorem d_Co_isAllowed_35 : decode c_Co_isAllowed 35 = .ok (.aload_n 0, 1) := by decide +kernel
theorem d_Co_isAllowed_36 : decode c_Co_isAllowed 36 = .ok (.getfield 45, 3) := by decide +kernel
theorem d_Co_isAllowed_39 : decode c_Co_isAllowed 39 = .ok (.iload_n 1, 1) := by decide +kernel
theorem d_Co_isAllowed_40 : decode c_Co_isAllowed 40 = .ok (.invokevirtual 244, 3) := by decide +kernel
theorem d_Co_isAllowed_43 : decode c_Co_isAllowed 43 = .ok (.putfield 247, 3) := by decide +kernel
theorem d_Co_isAllowed_46 : decode c_Co_isAllowed 46 = .ok (.iconst 1, 1) := by decide +kernel
theorem d_Co_isAllowed_47 : decode c_Co_isAllowed 47 = .ok (.ireturn, 1) := by decide +kernel
theorem d_Co_isAllowedByKernel_0 : decode c_Co_isAllowedByKernel 0 = .ok (.aload_n 0, 1) := by decide +kernel
theorem d_Co_isAllowedByKernel_1 : decode c_Co_isAllowedByKernel 1 = .ok (.dup, 1) := by decide +kernel
theorem d_Co_isAllowedByKernel_2 : decode c_Co_isAllowedByKernel 2 = .ok (.getfield 141, 3) := by decide +kernel
theorem d_Co_isAllowedByKernel_5 : decode c_Co_isAllowedByKernel 5 = .ok (.iconst 1, 1) := by decide +kernel
theorem d_Co_isAllowedByKernel_6 : decode c_Co_isAllowedByKernel 6 = .ok (.iadd, 1) := by decide +kernel
theorem d_Co_isAllowedByKernel_7 : decode c_Co_isAllowedByKernel 7 = .ok (.putfield 141, 3) := by decide +kernel
theorem d_Co_isAllowedByKernel_10 : decode c_Co_isAllowedByKernel 10 = .ok (.aload_n 0, 1) := by decide +kernel
theorem d_Co_isAllowedByKernel_11 : decode c_Co_isAllowedByKernel 11 = .ok (.getfield 38, 3) := by decide +kernel
theorem d_Co_isAllowedByKernel_14 : decode c_Co_isAllowedByKernel 14 = .ok (.aload_n 0, 1) := by decide +kernel
theorem d_Co_isAllowedByKernel_15 : decode c_Co_isAllowedByKernel 15 = .ok (.getfield 52, 3) := by decide +kernel
theorem d_Co_isAllowedByKernel_18 : decode c_Co_isAllowedByKernel 18 = .ok (.invokevirtual 250, 3) := by decide +kernel
theorem d_Co_isAllowedByKernel_21 : decode c_Co_isAllowedByKernel 21 = .ok (.istore_n 1, 1) := by decide +kernel
theorem d_Co_isAllowedByKernel_22 : decode c_Co_isAllowedByKernel 22 = .ok (.iload_n 1, 1) := by decide +kernel
theorem d_Co_isAllowedByKernel_23 : decode c_Co_isAllowedByKernel 23 = .ok (.sipush 200, 3) := by decide +kernel
theorem d_Co_isAllowedByKernel_26 : decode c_Co_isAllowedByKernel 26 = .ok (.if_icmp .le 13, 3) := by decide +kernel
theorem d_Co_isAllowedByKernel_29 : decode c_Co_isAllowedByKernel 29 = .ok (.aload_n 0, 1) := by decide +kernel
theorem d_Co_isAllowedByKernel_30 : decode c_Co_isAllowedByKernel 30 = .ok (.dup, 1) := by decide +kernel
theorem d_Co_isAllowedByKernel_31 : decode c_Co_isAllowedByKernel 31 = .ok (.getfield 145, 3) := by decide +kernel
theorem d_Co_isAllowedByKernel_34 : decode c_Co_isAllowedByKernel 34 = .ok (.iconst 1, 1) := by decide +kernel
theorem d_Co_isAllowedByKernel_35 : decode c_Co_isAllowedByKernel 35 = .ok (.iadd, 1) := by decide +kernel
theorem d_Co_isAllowedByKernel_36 : decode c_Co_isAllowedByKernel 36 = .ok (.putfield 145, 3) := by decide +kernel
theorem d_Co_isAllowedByKernel_39 : decode c_Co_isAllowedByKernel 39 = .ok (.aload_n 0, 1) := by decide +kernel
theorem d_Co_isAllowedByKernel_40 : decode c_Co_isAllowedByKernel 40 = .ok (.getfield 38, 3) := by decide +kernel
theorem d_Co_isAllowedByKernel_43 : decode c_Co_isAllowedByKernel 43 = .ok (.invokevirtual 253, 3) := by decide +kernel
theorem d_Co_isAllowedByKernel_46 : decode c_Co_isAllowedByKernel 46 = .ok (.ifCond .ne 5, 3) := by decide +kernel
theorem d_Co_isAllowedByKernel_49 : decode c_Co_isAllowedByKernel 49 = .ok (.iconst 0, 1) := by decide +kernel
theorem d_Co_isAllowedByKernel_50 : decode c_Co_isAllowedByKernel 50 = .ok (.ireturn, 1) := by decide +kernel
theorem d_Co_isAllowedByKernel_51 : decode c_Co_isAllowedByKernel 51 = .ok (.aload_n 0, 1) := by decide +kernel
theorem d_Co_isAllowedByKernel_52 : decode c_Co_isAllowedByKernel 52 = .ok (.aload_n 0, 1) := by decide +kernel
theorem d_Co_isAllowedByKernel_53 : decode c_Co_isAllowedByKernel 53 = .ok (.getfield 38, 3) := by decide +kernel
theorem d_Co_isAllowedByKernel_56 : decode c_Co_isAllowedByKernel 56 = .ok (.invokevirtual 256, 3) := by decide +kernel
theorem d_Co_isAllowedByKernel_59 : decode c_Co_isAllowedByKernel 59 = .ok (.putfield 241, 3) := by decide +kernel
theorem d_Co_isAllowedByKernel_62 : decode c_Co_isAllowedByKernel 62 = .ok (.aload_n 0, 1) := by decide +kernel
theorem d_Co_isAllowedByKernel_63 : decode c_Co_isAllowedByKernel 63 = .ok (.aload_n 0, 1) := by decide +kernel
theorem d_Co_isAllowedByKernel_64 : decode c_Co_isAllowedByKernel 64 = .ok (.getfield 38, 3) := by decide +kernel
theorem d_Co_isAllowedByKernel_67 : decode c_Co_isAllowedByKernel 67 = .ok (.invokevirtual 259, 3) := by decide +kernel
theorem d_Co_isAllowedByKernel_70 : decode c_Co_isAllowedByKernel 70 = .ok (.putfield 247, 3) := by decide +kernel
theorem d_Co_isAllowedByKernel_73 : decode c_Co_isAllowedByKernel 73 = .ok (.aload_n 0, 1) := by decide +kernel
theorem d_Co_isAllowedByKernel_74 : decode c_Co_isAllowedByKernel 74 = .ok (.getfield 45, 3) := by decide +kernel
theorem d_Co_isAllowedByKernel_77 : decode c_Co_isAllowedByKernel 77 = .ok (.aload_n 0, 1) := by decide +kernel
theorem d_Co_isAllowedByKernel_78 : decode c_Co_isAllowedByKernel 78 = .ok (.getfield 52, 3) := by decide +kernel
theorem d_Co_isAllowedByKernel_81 : decode c_Co_isAllowedByKernel 81 = .ok (.aload_n 0, 1) := by decide +kernel
theorem d_Co_isAllowedByKernel_82 : decode c_Co_isAllowedByKernel 82 = .ok (.getfield 241, 3) := by decide +kernel
theorem d_Co_isAllowedByKernel_85 : decode c_Co_isAllowedByKernel 85 = .ok (.aload_n 0, 1) := by decide +kernel
theorem d_Co_isAllowedByKernel_86 : decode c_Co_isAllowedByKernel 86 = .ok (.getfield 247, 3) := by decide +kernel
theorem d_Co_isAllowedByKernel_89 : decode c_Co_isAllowedByKernel 89 = .ok (.invokevirtual 262, 3) := by decide +kernel
theorem d_Co_isAllowedByKernel_92 : decode c_Co_isAllowedByKernel 92 = .ok (.iconst 1, 1) := by decide +kernel
theorem d_Co_isAllowedByKernel_93 : decode c_Co_isAllowedByKernel 93 = .ok (.ireturn, 1) := by decide +kernel
theorem d_Co_perform_0 : decode c_Co_perform 0 = .ok (.aload_n 0, 1) := by decide +kernel
theorem d_Co_perform_1 : decode c_Co_perform 1 = .ok (.getfield 132, 3) := by decide +kernel
theorem d_Co_perform_4 : decode c_Co_perform 4 = .ok (.iconst 4, 1) := by decide +kernel
theorem d_Co_perform_5 : decode c_Co_perform 5 = .ok (.iadd, 1) := by decide +kernel
theorem d_Co_perform_6 : decode c_Co_perform 6 = .ok (.istore 4, 2) := by decide +kernel
theorem d_Co_perform_8 : decode c_Co_perform 8 = .ok (.iload 4, 2) := by decide +kernel
theorem d_Co_perform_10 : decode c_Co_perform 10 = .ok (.istore 5, 2) := by decide +kernel
theorem d_Co_perform_12 : decode c_Co_perform 12 = .ok (.iload_n 2, 1) := by decide +kernel
theorem d_Co_perform_13 : decode c_Co_perform 13 = .ok (.tableswitch 231 0 7 #[47, 60, 74, 103, 127, 154, 175, 206], 47) := by decide +kernel
theorem d_Co_perform_60 : decode c_Co_perform 60 = .ok (.aload_n 0, 1) := by decide +kernel
theorem d_Co_perform_61 : decode c_Co_perform 61 = .ok (.iload_n 1, 1) := by decide +kernel
theorem d_Co_perform_62 : decode c_Co_perform 62 = .ok (.aload_n 0, 1) := by decide +kernel
theorem d_Co_perform_63 : decode c_Co_perform 63 = .ok (.iload_n 1, 1) := by decide +kernel
theorem d_Co_perform_64 : decode c_Co_perform 64 = .ok (.invokevirtual 266, 3) := by decide +kernel
theorem d_Co_perform_67 : decode c_Co_perform 67 = .ok (.invokevirtual 269, 3) := by decide +kernel
theorem d_Co_perform_70 : decode c_Co_perform 70 = .ok (.goto 193, 3) := by decide +kernel
theorem d_Co_perform_73 : decode c_Co_perform 73 = .ok (.aload_n 0, 1) := by decide +kernel
theorem d_Co_perform_74 : decode c_Co_perform 74 = .ok (.iload_n 1, 1) := by decide +kernel
theorem d_Co_perform_75 : decode c_Co_perform 75 = .ok (.aload_n 0, 1) := by decide +kernel
theorem d_Co_perform_76 : decode c_Co_perform 76 = .ok (.iload_n 1, 1) := by decide +kernel
theorem d_Co_perform_77 : decode c_Co_perform 77 = .ok (.iload_n 3, 1) := by decide +kernel
theorem d_Co_perform_78 : decode c_Co_perform 78 = .ok (.invokevirtual 272, 3) := by decide +kernel
theorem d_Co_perform_81 : decode c_Co_perform 81 = .ok (.invokevirtual 269, 3) := by decide +kernel
theorem d_Co_perform_84 : decode c_Co_perform 84 = .ok (.goto 179, 3) := by decide +kernel
theorem d_Co_perform_87 : decode c_Co_perform 87 = .ok (.aload_n 0, 1) := by decide +kernel
theorem d_Co_perform_88 : decode c_Co_perform 88 = .ok (.getfield 22, 3) := by decide +kernel
theorem d_Co_perform_91 : decode c_Co_perform 91 = .ok (.iload_n 3, 1) := by decide +kernel
theorem d_Co_perform_92 : decode c_Co_perform 92 = .ok (.invokestatic 225, 3) := by decide +kernel
theorem d_Co_perform_95 : decode c_Co_perform 95 = .ok (.aload_n 0, 1) := by decide +kernel
theorem d_Co_perform_96 : decode c_Co_perform 96 = .ok (.getfield 18, 3) := by decide +kernel
theorem d_Co_perform_99 : decode c_Co_perform 99 = .ok (.iload_n 1, 1) := by decide +kernel
theorem d_Co_perform_100 : decode c_Co_perform 100 = .ok (.invokestatic 216, 3) := by decide +kernel
theorem d_Co_perform_103 : decode c_Co_perform 103 = .ok (.invokevirtual 195, 3) := by decide +kernel
theorem d_Co_perform_106 : decode c_Co_perform 106 = .ok (.aload_n 0, 1) := by decide +kernel
theorem d_Co_perform_107 : decode c_Co_perform 107 = .ok (.getfield 241, 3) := by decide +kernel
theorem d_Co_perform_110 : decode c_Co_perform 110 = .ok (.invokevirtual 94, 3) := by decide +kernel
theorem d_Co_perform_113 : decode c_Co_perform 113 = .ok (.goto 150, 3) := by decide +kernel
theorem d_Co_perform_116 : decode c_Co_perform 116 = .ok (.aload_n 0, 1) := by decide +kernel
theorem d_Co_perform_117 : decode c_Co_perform 117 = .ok (.getfield 22, 3) := by decide +kernel
theorem d_Co_perform_120 : decode c_Co_perform 120 = .ok (.iload_n 3, 1) := by decide +kernel
theorem d_Co_perform_121 : decode c_Co_perform 121 = .ok (.invokestatic 225, 3) := by decide +kernel
theorem d_Co_perform_124 : decode c_Co_perform 124 = .ok (.aload_n 0, 1) := by decide +kernel
theorem d_Co_perform_125 : decode c_Co_perform 125 = .ok (.iload_n 1, 1) := by decide +kernel
theorem d_Co_perform_126 : decode c_Co_perform 126 = .ok (.iload_n 3, 1) := by decide +kernel
theorem d_Co_perform_127 : decode c_Co_perform 127 = .ok (.invokevirtual 275, 3) := by decide +kernel
theorem d_Co_perform_130 : decode c_Co_perform 130 = .ok (.aload_n 0, 1) := by decide +kernel
theorem d_Co_perform_131 : decode c_Co_perform 131 = .ok (.getfield 241, 3) := by decide +kernel
theorem d_Co_perform_134 : decode c_Co_perform 134 = .ok (.invokevirtual 94, 3) := by decide +kernel
theorem d_Co_perform_137 : decode c_Co_perform 137 = .ok (.goto 126, 3) := by decide +kernel
theorem d_Co_perform_140 : decode c_Co_perform 140 = .ok (.aload_n 0, 1) := by decide +kernel
theorem d_Co_perform_141 : decode c_Co_perform 141 = .ok (.iload_n 1, 1) := by decide +kernel
theorem d_Co_perform_142 : decode c_Co_perform 142 = .ok (.invokevirtual 278, 3) := by decide +kernel
theorem d_Co_perform_145 : decode c_Co_perform 145 = .ok (.ifCond .eq 15, 3) := by decide +kernel
theorem d_Co_perform_148 : decode c_Co_perform 148 = .ok (.aload_n 0, 1) := by decide +kernel
theorem d_Co_perform_149 : decode c_Co_perform 149 = .ok (.getfield 132, 3) := by decide +kernel
theorem d_Co_perform_152 : decode c_Co_perform 152 = .ok (.iload_n 1, 1) := by decide +kernel
theorem d_Co_perform_153 : decode c_Co_perform 153 = .ok (.invokestatic 281, 3) := by decide +kernel
theorem d_Co_perform_156 : decode c_Co_perform 156 = .ok (.iadd, 1) := by decide +kernel
theorem d_Co_perform_157 : decode c_Co_perform 157 = .ok (.goto 5, 3) := by decide +kernel
theorem d_Co_perform_160 : decode c_Co_perform 160 = .ok (.iload 4, 2) := by decide +kernel
theorem d_Co_perform_162 : decode c_Co_perform 162 = .ok (.istore 5, 2) := by decide +kernel
theorem d_Co_perform_164 : decode c_Co_perform 164 = .ok (.goto 99, 3) := by decide +kernel
theorem d_Co_perform_167 : decode c_Co_perform 167 = .ok (.aload_n 0, 1) := by decide +kernel
theorem d_Co_perform_168 : decode c_Co_perform 168 = .ok (.getfield 132, 3) := by decide +kernel
theorem d_Co_perform_171 : decode c_Co_perform 171 = .ok (.iload_n 1, 1) := by decide +kernel
theorem d_Co_perform_172 : decode c_Co_perform 172 = .ok (.invokestatic 284, 3) := by decide +kernel
theorem d_Co_perform_175 : decode c_Co_perform 175 = .ok (.iadd, 1) := by decide +kernel
theorem d_Co_perform_176 : decode c_Co_perform 176 = .ok (.istore 5, 2) := by decide +kernel
theorem d_Co_perform_178 : decode c_Co_perform 178 = .ok (.aload_n 0, 1) := by decide +kernel
theorem d_Co_perform_179 : decode c_Co_perform 179 = .ok (.iload_n 1, 1) := by decide +kernel
theorem d_Co_perform_180 : decode c_Co_perform 180 = .ok (.iload 4, 2) := by decide +kernel
theorem d_Co_perform_182 : decode c_Co_perform 182 = .ok (.invokevirtual 269, 3) := by decide +kernel
theorem d_Co_perform_185 : decode c_Co_perform 185 = .ok (.goto 78, 3) := by decide +kernel
theorem d_Co_perform_188 : decode c_Co_perform 188 = .ok (.aload_n 0, 1) := by decide +kernel
theorem d_Co_perform_189 : decode c_Co_perform 189 = .ok (.getfield 18, 3) := by decide +kernel
theorem d_Co_perform_192 : decode c_Co_perform 192 = .ok (.iload_n 1, 1) := by decide +kernel
theorem d_Co_perform_193 : decode c_Co_perform 193 = .ok (.invokestatic 192, 3) := by decide +kernel
theorem d_Co_perform_196 : decode c_Co_perform 196 = .ok (.invokevirtual 195, 3) := by decide +kernel
theorem d_Co_perform_199 : decode c_Co_perform 199 = .ok (.iload_n 1, 1) := by decide +kernel
theorem d_Co_perform_200 : decode c_Co_perform 200 = .ok (.invokestatic 186, 3) := by decide +kernel
theorem d_Co_perform_203 : decode c_Co_perform 203 = .ok (.iadd, 1) := by decide +kernel
theorem d_Co_perform_204 : decode c_Co_perform 204 = .ok (.bipush (-2), 2) := by decide +kernel
theorem d_Co_perform_206 : decode c_Co_perform 206 = .ok (.iand, 1) := by decide +kernel
theorem d_Co_perform_207 : decode c_Co_perform 207 = .ok (.istore 5, 2) := by decide +kernel
theorem d_Co_perform_209 : decode c_Co_perform 209 = .ok (.aload_n 0, 1) := by decide +kernel
theorem d_Co_perform_210 : decode c_Co_perform 210 = .ok (.iload_n 1, 1) := by decide +kernel
theorem d_Co_perform_211 : decode c_Co_perform 211 = .ok (.iload 4, 2) := by decide +kernel
theorem d_Co_perform_213 : decode c_Co_perform 213 = .ok (.invokevirtual 269, 3) := by decide +kernel
theorem d_Co_perform_216 : decode c_Co_perform 216 = .ok (.goto 47, 3) := by decide +kernel
theorem d_Co_perform_219 : decode c_Co_perform 219 = .ok (.aload_n 0, 1) := by decide +kernel
theorem d_Co_perform_220 : decode c_Co_perform 220 = .ok (.getfield 32, 3) := by decide +kernel
theorem d_Co_perform_223 : decode c_Co_perform 223 = .ok (.aload_n 0, 1) := by decide +kernel
theorem d_Co_perform_224 : decode c_Co_perform 224 = .ok (.getfield 18, 3) := by decide +kernel
theorem d_Co_perform_227 : decode c_Co_perform 227 = .ok (.iload_n 1, 1) := by decide +kernel
theorem d_Co_perform_228 : decode c_Co_perform 228 = .ok (.invokestatic 192, 3) := by decide +kernel
theorem d_Co_perform_231 : decode c_Co_perform 231 = .ok (.invokevirtual 195, 3) := by decide +kernel
theorem d_Co_perform_234 : decode c_Co_perform 234 = .ok (.aload_n 0, 1) := by decide +kernel
theorem d_Co_perform_235 : decode c_Co_perform 235 = .ok (.getfield 241, 3) := by decide +kernel
theorem d_Co_perform_238 : decode c_Co_perform 238 = .ok (.invokevirtual 104, 3) := by decide +kernel
theorem d_Co_perform_241 : decode c_Co_perform 241 = .ok (.goto 22, 3) := by decide +kernel
theorem d_Co_perform_244 : decode c_Co_perform 244 = .ok (.aload_n 0, 1) := by decide +kernel
theorem d_Co_perform_245 : decode c_Co_perform 245 = .ok (.iload_n 1, 1) := by decide +kernel
theorem d_Co_perform_246 : decode c_Co_perform 246 = .ok (.aload_n 0, 1) := by decide +kernel
theorem d_Co_perform_247 : decode c_Co_perform 247 = .ok (.getfield 28, 3) := by decide +kernel
theorem d_Co_perform_250 : decode c_Co_perform 250 = .ok (.invokevirtual 287, 3) := by decide +kernel
theorem d_Co_perform_253 : decode c_Co_perform 253 = .ok (.invokevirtual 269, 3) := by decide +kernel
theorem d_Co_perform_256 : decode c_Co_perform 256 = .ok (.aload_n 0, 1) := by decide +kernel
theorem d_Co_perform_257 : decode c_Co_perform 257 = .ok (.getfield 28, 3) := by decide +kernel
theorem d_Co_perform_260 : decode c_Co_perform 260 = .ok (.invokevirtual 290, 3) := by decide +kernel
theorem d_Co_perform_263 : decode c_Co_perform 263 = .ok (.aload_n 0, 1) := by decide +kernel
theorem d_Co_perform_264 : decode c_Co_perform 264 = .ok (.iload 5, 2) := by decide +kernel
theorem d_Co_perform_266 : decode c_Co_perform 266 = .ok (.putfield 132, 3) := by decide +kernel
theorem d_Co_perform_269 : decode c_Co_perform 269 = .ok (.aload_n 0, 1) := by decide +kernel
theorem d_Co_perform_270 : decode c_Co_perform 270 = .ok (.aload_n 0, 1) := by decide +kernel
theorem d_Co_perform_271 : decode c_Co_perform 271 = .ok (.getfield 247, 3) := by decide +kernel
theorem d_Co_perform_274 : decode c_Co_perform 274 = .ok (.putfield 135, 3) := by decide +kernel
theorem d_Co_perform_277 : decode c_Co_perform 277 = .ok (.return_, 1) := by decide +kernel
theorem d_Co_keep_0 : decode c_Co_keep 0 = .ok (.iload_n 1, 1) := by decide +kernel
theorem d_Co_keep_1 : decode c_Co_keep 1 = .ok (.invokestatic 293, 3) := by decide +kernel
theorem d_Co_keep_4 : decode c_Co_keep 4 = .ok (.istore_n 3, 1) := by decide +kernel
theorem d_Co_keep_5 : decode c_Co_keep 5 = .ok (.iload_n 3, 1) := by decide +kernel
theorem d_Co_keep_6 : decode c_Co_keep 6 = .ok (.ifCond .eq 16, 3) := by decide +kernel
theorem d_Co_keep_9 : decode c_Co_keep 9 = .ok (.aload_n 0, 1) := by decide +kernel
theorem d_Co_keep_10 : decode c_Co_keep 10 = .ok (.getfield 18, 3) := by decide +kernel
theorem d_Co_keep_13 : decode c_Co_keep 13 = .ok (.iload_n 3, 1) := by decide +kernel
theorem d_Co_keep_14 : decode c_Co_keep 14 = .ok (.iload_n 2, 1) := by decide +kernel
theorem d_Co_keep_15 : decode c_Co_keep 15 = .ok (.aload_n 0, 1) := by decide +kernel
theorem d_Co_keep_16 : decode c_Co_keep 16 = .ok (.getfield 241, 3) := by decide +kernel
theorem d_Co_keep_19 : decode c_Co_keep 19 = .ok (.invokevirtual 94, 3) := by decide +kernel
theorem d_Co_keep_22 : decode c_Co_keep 22 = .ok (.return_, 1) := by decide +kernel
theorem d_Co_worked_0 : decode c_Co_worked 0 = .ok (.iload_n 1, 1) := by decide +kernel
theorem d_Co_worked_1 : decode c_Co_worked 1 = .ok (.invokestatic 296, 3) := by decide +kernel
theorem d_Co_worked_4 : decode c_Co_worked 4 = .ok (.istore_n 2, 1) := by decide +kernel
theorem d_Co_worked_5 : decode c_Co_worked 5 = .ok (.iload_n 2, 1) := by decide +kernel
theorem d_Co_worked_6 : decode c_Co_worked 6 = .ok (.bipush 55, 2) := by decide +kernel
theorem d_Co_worked_8 : decode c_Co_worked 8 = .ok (.if_icmp .ne 8, 3) := by decide +kernel
theorem d_Co_worked_11 : decode c_Co_worked 11 = .ok (.iload_n 1, 1) := by decide +kernel
theorem d_Co_worked_12 : decode c_Co_worked 12 = .ok (.invokestatic 299, 3) := by decide +kernel
theorem d_Co_worked_15 : decode c_Co_worked 15 = .ok (.ireturn, 1) := by decide +kernel
theorem d_Co_worked_16 : decode c_Co_worked 16 = .ok (.iload_n 2, 1) := by decide +kernel
theorem d_Co_worked_17 : decode c_Co_worked 17 = .ok (.bipush 23, 2) := by decide +kernel
theorem d_Co_worked_19 : decode c_Co_worked 19 = .ok (.if_icmp .ne 13, 3) := by decide +kernel
theorem d_Co_worked_22 : decode c_Co_worked 22 = .ok (.iload_n 1, 1) := by decide +kernel
theorem d_Co_worked_23 : decode c_Co_worked 23 = .ok (.invokestatic 299, 3) := by decide +kernel
theorem d_Co_worked_26 : decode c_Co_worked 26 = .ok (.aload_n 0, 1) := by decide +kernel
theorem d_Co_worked_27 : decode c_Co_worked 27 = .ok (.getfield 132, 3) := by decide +kernel
theorem d_Co_worked_30 : decode c_Co_worked 30 = .ok (.iadd, 1) := by decide +kernel
theorem d_Co_worked_31 : decode c_Co_worked 31 = .ok (.ireturn, 1) := by decide +kernel
theorem d_Co_worked_32 : decode c_Co_worked 32 = .ok (.aload_n 0, 1) := by decide +kernel
theorem d_Co_worked_33 : decode c_Co_worked 33 = .ok (.getfield 18, 3) := by decide +kernel
theorem d_Co_worked_36 : decode c_Co_worked 36 = .ok (.iload_n 1, 1) := by decide +kernel
theorem d_Co_worked_37 : decode c_Co_worked 37 = .ok (.invokestatic 192, 3) := by decide +kernel
theorem d_Co_worked_40 : decode c_Co_worked 40 = .ok (.invokevirtual 195, 3) := by decide +kernel
theorem d_Co_worked_43 : decode c_Co_worked 43 = .ok (.istore_n 3, 1) := by decide +kernel
theorem d_Co_worked_44 : decode c_Co_worked 44 = .ok (.iload_n 2, 1) := by decide +kernel
theorem d_Co_worked_45 : decode c_Co_worked 45 = .ok (.bipush 51, 2) := by decide +kernel
theorem d_Co_worked_47 : decode c_Co_worked 47 = .ok (.if_icmp .ne 35, 3) := by decide +kernel
theorem d_Co_worked_50 : decode c_Co_worked 50 = .ok (.iload_n 1, 1) := by decide +kernel
theorem d_Co_worked_51 : decode c_Co_worked 51 = .ok (.invokestatic 302, 3) := by decide +kernel
theorem d_Co_worked_54 : decode c_Co_worked 54 = .ok (.iload_n 1, 1) := by decide +kernel
theorem d_Co_worked_55 : decode c_Co_worked 55 = .ok (.invokestatic 305, 3) := by decide +kernel
theorem d_Co_worked_58 : decode c_Co_worked 58 = .ok (.ifCond .eq 7, 3) := by decide +kernel
theorem d_Co_worked_61 : decode c_Co_worked 61 = .ok (.iconst 1, 1) := by decide +kernel
theorem d_Co_worked_62 : decode c_Co_worked 62 = .ok (.goto 4, 3) := by decide +kernel
theorem d_Co_worked_65 : decode c_Co_worked 65 = .ok (.iconst 0, 1) := by decide +kernel
theorem d_Co_worked_66 : decode c_Co_worked 66 = .ok (.iload_n 3, 1) := by decide +kernel
theorem d_Co_worked_67 : decode c_Co_worked 67 = .ok (.aload_n 0, 1) := by decide +kernel
theorem d_Co_worked_68 : decode c_Co_worked 68 = .ok (.getfield 18, 3) := by decide +kernel
theorem d_Co_worked_71 : decode c_Co_worked 71 = .ok (.iload_n 1, 1) := by decide +kernel
theorem d_Co_worked_72 : decode c_Co_worked 72 = .ok (.invokestatic 216, 3) := by decide +kernel
theorem d_Co_worked_75 : decode c_Co_worked 75 = .ok (.invokevirtual 195, 3) := by decide +kernel
theorem d_Co_worked_78 : decode c_Co_worked 78 = .ok (.invokestatic 308, 3) := by decide +kernel
theorem d_Co_worked_81 : decode c_Co_worked 81 = .ok (.ireturn, 1) := by decide +kernel
theorem d_Co_worked_82 : decode c_Co_worked 82 = .ok (.iload_n 1, 1) := by decide +kernel
theorem d_Co_worked_83 : decode c_Co_worked 83 = .ok (.invokestatic 302, 3) := by decide +kernel
theorem d_Co_worked_86 : decode c_Co_worked 86 = .ok (.iconst 5, 1) := by decide +kernel
theorem d_Co_worked_87 : decode c_Co_worked 87 = .ok (.if_icmp .ne 14, 3) := by decide +kernel
theorem d_Co_worked_90 : decode c_Co_worked 90 = .ok (.iload_n 1, 1) := by decide +kernel
theorem d_Co_worked_91 : decode c_Co_worked 91 = .ok (.invokestatic 305, 3) := by decide +kernel
theorem d_Co_worked_94 : decode c_Co_worked 94 = .ok (.ifCond .eq 7, 3) := by decide +kernel
theorem d_Co_worked_97 : decode c_Co_worked 97 = .ok (.iconst 1, 1) := by decide +kernel
theorem d_Co_worked_98 : decode c_Co_worked 98 = .ok (.goto 4, 3) := by decide +kernel
theorem d_Co_worked_101 : decode c_Co_worked 101 = .ok (.iconst 0, 1) := by decide +kernel
theorem d_Co_worked_102 : decode c_Co_worked 102 = .ok (.istore 4, 2) := by decide +kernel
theorem d_Co_worked_104 : decode c_Co_worked 104 = .ok (.iload_n 1, 1) := by decide +kernel
theorem d_Co_worked_105 : decode c_Co_worked 105 = .ok (.invokestatic 302, 3) := by decide +kernel
theorem d_Co_worked_108 : decode c_Co_worked 108 = .ok (.iload 4, 2) := by decide +kernel
theorem d_Co_worked_110 : decode c_Co_worked 110 = .ok (.iload_n 3, 1) := by decide +kernel
theorem d_Co_worked_111 : decode c_Co_worked 111 = .ok (.iload_n 1, 1) := by decide +kernel
theorem d_Co_worked_112 : decode c_Co_worked 112 = .ok (.invokestatic 186, 3) := by decide +kernel
theorem d_Co_worked_115 : decode c_Co_worked 115 = .ok (.invokestatic 308, 3) := by decide +kernel
theorem d_Co_worked_118 : decode c_Co_worked 118 = .ok (.ireturn, 1) := by decide +kernel
theorem d_Co_loaded_0 : decode c_Co_loaded 0 = .ok (.aload_n 0, 1) := by decide +kernel
theorem d_Co_loaded_1 : decode c_Co_loaded 1 = .ok (.getfield 22, 3) := by decide +kernel
theorem d_Co_loaded_4 : decode c_Co_loaded 4 = .ok (.iload_n 2, 1) := by decide +kernel
theorem d_Co_loaded_5 : decode c_Co_loaded 5 = .ok (.invokestatic 225, 3) := by decide +kernel
theorem d_Co_loaded_8 : decode c_Co_loaded 8 = .ok (.invokevirtual 195, 3) := by decide +kernel
theorem d_Co_loaded_11 : decode c_Co_loaded 11 = .ok (.istore_n 3, 1) := by decide +kernel
theorem d_Co_loaded_12 : decode c_Co_loaded 12 = .ok (.iload_n 1, 1) := by decide +kernel
theorem d_Co_loaded_13 : decode c_Co_loaded 13 = .ok (.invokestatic 167, 3) := by decide +kernel
theorem d_Co_loaded_16 : decode c_Co_loaded 16 = .ok (.ifCond .eq 5, 3) := by decide +kernel
theorem d_Co_loaded_19 : decode c_Co_loaded 19 = .ok (.iload_n 3, 1) := by decide +kernel
theorem d_Co_loaded_20 : decode c_Co_loaded 20 = .ok (.ireturn, 1) := by decide +kernel
theorem d_Co_loaded_21 : decode c_Co_loaded 21 = .ok (.iload_n 3, 1) := by decide +kernel
theorem d_Co_loaded_22 : decode c_Co_loaded 22 = .ok (.iload_n 2, 1) := by decide +kernel
theorem d_Co_loaded_23 : decode c_Co_loaded 23 = .ok (.invokestatic 312, 3) := by decide +kernel
theorem d_Co_loaded_26 : decode c_Co_loaded 26 = .ok (.iushr, 1) := by decide +kernel
theorem d_Co_loaded_27 : decode c_Co_loaded 27 = .ok (.sipush 255, 3) := by decide +kernel
theorem d_Co_loaded_30 : decode c_Co_loaded 30 = .ok (.iand, 1) := by decide +kernel
theorem d_Co_loaded_31 : decode c_Co_loaded 31 = .ok (.istore 4, 2) := by decide +kernel
theorem d_Co_loaded_33 : decode c_Co_loaded 33 = .ok (.iload_n 1, 1) := by decide +kernel
theorem d_Co_loaded_34 : decode c_Co_loaded 34 = .ok (.invokestatic 302, 3) := by decide +kernel
theorem d_Co_loaded_37 : decode c_Co_loaded 37 = .ok (.ifCond .ne 9, 3) := by decide +kernel
theorem d_Co_loaded_40 : decode c_Co_loaded 40 = .ok (.iload 4, 2) := by decide +kernel
theorem d_Co_loaded_42 : decode c_Co_loaded 42 = .ok (.i2b, 1) := by decide +kernel
theorem d_Co_loaded_43 : decode c_Co_loaded 43 = .ok (.goto 5, 3) := by decide +kernel
theorem d_Co_loaded_46 : decode c_Co_loaded 46 = .ok (.iload 4, 2) := by decide +kernel
theorem d_Co_loaded_48 : decode c_Co_loaded 48 = .ok (.ireturn, 1) := by decide +kernel
theorem d_Co_patched_0 : decode c_Co_patched 0 = .ok (.iload_n 2, 1) := by decide +kernel
theorem d_Co_patched_1 : decode c_Co_patched 1 = .ok (.invokestatic 312, 3) := by decide +kernel
theorem d_Co_patched_4 : decode c_Co_patched 4 = .ok (.istore_n 3, 1) := by decide +kernel
theorem d_Co_patched_5 : decode c_Co_patched 5 = .ok (.aload_n 0, 1) := by decide +kernel
theorem d_Co_patched_6 : decode c_Co_patched 6 = .ok (.getfield 22, 3) := by decide +kernel
theorem d_Co_patched_9 : decode c_Co_patched 9 = .ok (.iload_n 2, 1) := by decide +kernel
theorem d_Co_patched_10 : decode c_Co_patched 10 = .ok (.invokestatic 225, 3) := by decide +kernel
theorem d_Co_patched_13 : decode c_Co_patched 13 = .ok (.invokevirtual 195, 3) := by decide +kernel
theorem d_Co_patched_16 : decode c_Co_patched 16 = .ok (.sipush 255, 3) := by decide +kernel
theorem d_Co_patched_19 : decode c_Co_patched 19 = .ok (.iload_n 3, 1) := by decide +kernel
theorem d_Co_patched_20 : decode c_Co_patched 20 = .ok (.ishl, 1) := by decide +kernel
theorem d_Co_patched_21 : decode c_Co_patched 21 = .ok (.iconst (-1), 1) := by decide +kernel
theorem d_Co_patched_22 : decode c_Co_patched 22 = .ok (.ixor, 1) := by decide +kernel
theorem d_Co_patched_23 : decode c_Co_patched 23 = .ok (.iand, 1) := by decide +kernel
theorem d_Co_patched_24 : decode c_Co_patched 24 = .ok (.istore 4, 2) := by decide +kernel
theorem d_Co_patched_26 : decode c_Co_patched 26 = .ok (.iload 4, 2) := by decide +kernel
theorem d_Co_patched_28 : decode c_Co_patched 28 = .ok (.aload_n 0, 1) := by decide +kernel
theorem d_Co_patched_29 : decode c_Co_patched 29 = .ok (.getfield 18, 3) := by decide +kernel
theorem d_Co_patched_32 : decode c_Co_patched 32 = .ok (.iload_n 1, 1) := by decide +kernel
theorem d_Co_patched_33 : decode c_Co_patched 33 = .ok (.invokestatic 216, 3) := by decide +kernel
theorem d_Co_patched_36 : decode c_Co_patched 36 = .ok (.invokevirtual 195, 3) := by decide +kernel
theorem d_Co_patched_39 : decode c_Co_patched 39 = .ok (.sipush 255, 3) := by decide +kernel
theorem d_Co_patched_42 : decode c_Co_patched 42 = .ok (.iand, 1) := by decide +kernel
theorem d_Co_patched_43 : decode c_Co_patched 43 = .ok (.iload_n 3, 1) := by decide +kernel
theorem d_Co_patched_44 : decode c_Co_patched 44 = .ok (.ishl, 1) := by decide +kernel
theorem d_Co_patched_45 : decode c_Co_patched 45 = .ok (.ior, 1) := by decide +kernel
theorem d_Co_patched_46 : decode c_Co_patched 46 = .ok (.ireturn, 1) := by decide +kernel
theorem d_Co_shiftOf_0 : decode c_Co_shiftOf 0 = .ok (.iload_n 0, 1) := by decide +kernel
theorem d_Co_shiftOf_1 : decode c_Co_shiftOf 1 = .ok (.iconst 3, 1) := by decide +kernel
theorem d_Co_shiftOf_2 : decode c_Co_shiftOf 2 = .ok (.iand, 1) := by decide +kernel
theorem d_Co_shiftOf_3 : decode c_Co_shiftOf 3 = .ok (.bipush 8, 2) := by decide +kernel
theorem d_Co_shiftOf_5 : decode c_Co_shiftOf 5 = .ok (.imul, 1) := by decide +kernel
theorem d_Co_shiftOf_6 : decode c_Co_shiftOf 6 = .ok (.ireturn, 1) := by decide +kernel
theorem d_Co_branches_0 : decode c_Co_branches 0 = .ok (.iload_n 1, 1) := by decide +kernel
theorem d_Co_branches_1 : decode c_Co_branches 1 = .ok (.invokestatic 302, 3) := by decide +kernel
theorem d_Co_branches_4 : decode c_Co_branches 4 = .ok (.aload_n 0, 1) := by decide +kernel
theorem d_Co_branches_5 : decode c_Co_branches 5 = .ok (.getfield 18, 3) := by decide +kernel
theorem d_Co_branches_8 : decode c_Co_branches 8 = .ok (.iload_n 1, 1) := by decide +kernel
theorem d_Co_branches_9 : decode c_Co_branches 9 = .ok (.invokestatic 192, 3) := by decide +kernel
theorem d_Co_branches_12 : decode c_Co_branches 12 = .ok (.invokevirtual 195, 3) := by decide +kernel
theorem d_Co_branches_15 : decode c_Co_branches 15 = .ok (.aload_n 0, 1) := by decide +kernel
theorem d_Co_branches_16 : decode c_Co_branches 16 = .ok (.getfield 18, 3) := by decide +kernel
theorem d_Co_branches_19 : decode c_Co_branches 19 = .ok (.iload_n 1, 1) := by decide +kernel
theorem d_Co_branches_20 : decode c_Co_branches 20 = .ok (.invokestatic 216, 3) := by decide +kernel
theorem d_Co_branches_23 : decode c_Co_branches 23 = .ok (.invokevirtual 195, 3) := by decide +kernel
theorem d_Co_branches_26 : decode c_Co_branches 26 = .ok (.invokestatic 315, 3) := by decide +kernel
theorem d_Co_branches_29 : decode c_Co_branches 29 = .ok (.ireturn, 1) := by decide +kernel
theorem d_Co_pairOf_0 : decode c_Co_pairOf 0 = .ok (.iload_n 1, 1) := by decide +kernel
theorem d_Co_pairOf_1 : decode c_Co_pairOf 1 = .ok (.i2l, 1) := by decide +kernel
theorem d_Co_pairOf_2 : decode c_Co_pairOf 2 = .ok (.bipush 32, 2) := by decide +kernel
theorem d_Co_pairOf_4 : decode c_Co_pairOf 4 = .ok (.lshl, 1) := by decide +kernel
theorem d_Co_pairOf_5 : decode c_Co_pairOf 5 = .ok (.iload_n 0, 1) := by decide +kernel
theorem d_Co_pairOf_6 : decode c_Co_pairOf 6 = .ok (.i2l, 1) := by decide +kernel
theorem d_Co_pairOf_7 : decode c_Co_pairOf 7 = .ok (.ldc2_w 319, 3) := by decide +kernel
theorem d_Co_pairOf_10 : decode c_Co_pairOf 10 = .ok (.land, 1) := by decide +kernel
theorem d_Co_pairOf_11 : decode c_Co_pairOf 11 = .ok (.lor, 1) := by decide +kernel
theorem d_Co_pairOf_12 : decode c_Co_pairOf 12 = .ok (.lreturn, 1) := by decide +kernel
theorem d_Mo_init_0 : decode c_Mo_init 0 = .ok (.aload_n 0, 1) := by decide +kernel
theorem d_Mo_init_1 : decode c_Mo_init 1 = .ok (.invokespecial 1, 3) := by decide +kernel
theorem d_Mo_init_4 : decode c_Mo_init 4 = .ok (.aload_n 0, 1) := by decide +kernel
theorem d_Mo_init_5 : decode c_Mo_init 5 = .ok (.sipush 256, 3) := by decide +kernel
theorem d_Mo_init_8 : decode c_Mo_init 8 = .ok (.newarray .int, 2) := by decide +kernel
theorem d_Mo_init_10 : decode c_Mo_init 10 = .ok (.putfield 7, 3) := by decide +kernel
theorem d_Mo_init_13 : decode c_Mo_init 13 = .ok (.aload_n 0, 1) := by decide +kernel
theorem d_Mo_init_14 : decode c_Mo_init 14 = .ok (.bipush 36, 2) := by decide +kernel
theorem d_Mo_init_16 : decode c_Mo_init 16 = .ok (.newarray .int, 2) := by decide +kernel
theorem d_Mo_init_18 : decode c_Mo_init 18 = .ok (.dup, 1) := by decide +kernel
theorem d_Mo_init_19 : decode c_Mo_init 19 = .ok (.iconst 0, 1) := by decide +kernel
theorem d_Mo_init_20 : decode c_Mo_init 20 = .ok (.bipush 7, 2) := by decide +kernel
theorem d_Mo_init_22 : decode c_Mo_init 22 = .ok (.iastore, 1) := by decide +kernel
theorem d_Mo_init_23 : decode c_Mo_init 23 = .ok (.dup, 1) := by decide +kernel
theorem d_Mo_init_24 : decode c_Mo_init 24 = .ok (.iconst 1, 1) := by decide +kernel
theorem d_Mo_init_25 : decode c_Mo_init 25 = .ok (.iconst 1, 1) := by decide +kernel
theorem d_Mo_init_26 : decode c_Mo_init 26 = .ok (.iastore, 1) := by decide +kernel
theorem d_Mo_init_27 : decode c_Mo_init 27 = .ok (.dup, 1) := by decide +kernel
theorem d_Mo_init_28 : decode c_Mo_init 28 = .ok (.iconst 2, 1) := by decide +kernel
theorem d_Mo_init_29 : decode c_Mo_init 29 = .ok (.iconst 0, 1) := by decide +kernel
theorem d_Mo_init_30 : decode c_Mo_init 30 = .ok (.iastore, 1) := by decide +kernel
theorem d_Mo_init_31 : decode c_Mo_init 31 = .ok (.dup, 1) := by decide +kernel
theorem d_Mo_init_32 : decode c_Mo_init 32 = .ok (.iconst 3, 1) := by decide +kernel
theorem d_Mo_init_33 : decode c_Mo_init 33 = .ok (.iconst 0, 1) := by decide +kernel
theorem d_Mo_init_34 : decode c_Mo_init 34 = .ok (.iastore, 1) := by decide +kernel
theorem d_Mo_init_35 : decode c_Mo_init 35 = .ok (.dup, 1) := by decide +kernel
theorem d_Mo_init_36 : decode c_Mo_init 36 = .ok (.iconst 4, 1) := by decide +kernel
theorem d_Mo_init_37 : decode c_Mo_init 37 = .ok (.bipush 11, 2) := by decide +kernel
theorem d_Mo_init_39 : decode c_Mo_init 39 = .ok (.iastore, 1) := by decide +kernel
theorem d_Mo_init_40 : decode c_Mo_init 40 = .ok (.dup, 1) := by decide +kernel
theorem d_Mo_init_41 : decode c_Mo_init 41 = .ok (.iconst 5, 1) := by decide +kernel
theorem d_Mo_init_42 : decode c_Mo_init 42 = .ok (.iconst 1, 1) := by decide +kernel
theorem d_Mo_init_43 : decode c_Mo_init 43 = .ok (.iastore, 1) := by decide +kernel
theorem d_Mo_init_44 : decode c_Mo_init 44 = .ok (.dup, 1) := by decide +kernel
theorem d_Mo_init_45 : decode c_Mo_init 45 = .ok (.bipush 6, 2) := by decide +kernel
theorem d_Mo_init_47 : decode c_Mo_init 47 = .ok (.iconst 0, 1) := by decide +kernel
theorem d_Mo_init_48 : decode c_Mo_init 48 = .ok (.iastore, 1) := by decide +kernel
theorem d_Mo_init_49 : decode c_Mo_init 49 = .ok (.dup, 1) := by decide +kernel
theorem d_Mo_init_50 : decode c_Mo_init 50 = .ok (.bipush 7, 2) := by decide +kernel
theorem d_Mo_init_52 : decode c_Mo_init 52 = .ok (.iconst 0, 1) := by decide +kernel
theorem d_Mo_init_53 : decode c_Mo_init 53 = .ok (.iastore, 1) := by decide +kernel
theorem d_Mo_init_54 : decode c_Mo_init 54 = .ok (.dup, 1) := by decide +kernel
theorem d_Mo_init_55 : decode c_Mo_init 55 = .ok (.bipush 8, 2) := by decide +kernel
theorem d_Mo_init_57 : decode c_Mo_init 57 = .ok (.bipush 7, 2) := by decide +kernel
theorem d_Mo_init_59 : decode c_Mo_init 59 = .ok (.iastore, 1) := by decide +kernel
theorem d_Mo_init_60 : decode c_Mo_init 60 = .ok (.dup, 1) := by decide +kernel
theorem d_Mo_init_61 : decode c_Mo_init 61 = .ok (.bipush 9, 2) := by decide +kernel
theorem d_Mo_init_63 : decode c_Mo_init 63 = .ok (.iconst 1, 1) := by decide +kernel
theorem d_Mo_init_64 : decode c_Mo_init 64 = .ok (.iastore, 1) := by decide +kernel
theorem d_Mo_init_65 : decode c_Mo_init 65 = .ok (.dup, 1) := by decide +kernel
theorem d_Mo_init_66 : decode c_Mo_init 66 = .ok (.bipush 10, 2) := by decide +kernel
theorem d_Mo_init_68 : decode c_Mo_init 68 = .ok (.iconst 3, 1) := by decide +kernel
theorem d_Mo_init_69 : decode c_Mo_init 69 = .ok (.iastore, 1) := by decide +kernel
theorem d_Mo_init_70 : decode c_Mo_init 70 = .ok (.dup, 1) := by decide +kernel
theorem d_Mo_init_71 : decode c_Mo_init 71 = .ok (.bipush 11, 2) := by decide +kernel
theorem d_Mo_init_73 : decode c_Mo_init 73 = .ok (.bipush 8, 2) := by decide +kernel
theorem d_Mo_init_75 : decode c_Mo_init 75 = .ok (.iastore, 1) := by decide +kernel
theorem d_Mo_init_76 : decode c_Mo_init 76 = .ok (.dup, 1) := by decide +kernel
theorem d_Mo_init_77 : decode c_Mo_init 77 = .ok (.bipush 12, 2) := by decide +kernel
theorem d_Mo_init_79 : decode c_Mo_init 79 = .ok (.bipush 15, 2) := by decide +kernel
theorem d_Mo_init_81 : decode c_Mo_init 81 = .ok (.iastore, 1) := by decide +kernel
theorem d_Mo_init_82 : decode c_Mo_init 82 = .ok (.dup, 1) := by decide +kernel
theorem d_Mo_init_83 : decode c_Mo_init 83 = .ok (.bipush 13, 2) := by decide +kernel
theorem d_Mo_init_85 : decode c_Mo_init 85 = .ok (.iconst 1, 1) := by decide +kernel
theorem d_Mo_init_86 : decode c_Mo_init 86 = .ok (.iastore, 1) := by decide +kernel
theorem d_Mo_init_87 : decode c_Mo_init 87 = .ok (.dup, 1) := by decide +kernel
theorem d_Mo_init_88 : decode c_Mo_init 88 = .ok (.bipush 14, 2) := by decide +kernel
theorem d_Mo_init_90 : decode c_Mo_init 90 = .ok (.iconst 3, 1) := by decide +kernel
theorem d_Mo_init_91 : decode c_Mo_init 91 = .ok (.iastore, 1) := by decide +kernel
theorem d_Mo_init_92 : decode c_Mo_init 92 = .ok (.dup, 1) := by decide +kernel
theorem d_Mo_init_93 : decode c_Mo_init 93 = .ok (.bipush 15, 2) := by decide +kernel
theorem d_Mo_init_95 : decode c_Mo_init 95 = .ok (.bipush 8, 2) := by decide +kernel
theorem d_Mo_init_97 : decode c_Mo_init 97 = .ok (.iastore, 1) := by decide +kernel
theorem d_Mo_init_98 : decode c_Mo_init 98 = .ok (.dup, 1) := by decide +kernel
theorem d_Mo_init_99 : decode c_Mo_init 99 = .ok (.bipush 16, 2) := by decide +kernel
theorem d_Mo_init_101 : decode c_Mo_init 101 = .ok (.iconst 0, 1) := by decide +kernel
theorem d_Mo_init_102 : decode c_Mo_init 102 = .ok (.iastore, 1) := by decide +kernel
theorem d_Mo_init_103 : decode c_Mo_init 103 = .ok (.dup, 1) := by decide +kernel
theorem d_Mo_init_104 : decode c_Mo_init 104 = .ok (.bipush 17, 2) := by decide +kernel
theorem d_Mo_init_106 : decode c_Mo_init 106 = .ok (.bipush 7, 2) := by decide +kernel
theorem d_Mo_init_108 : decode c_Mo_init 108 = .ok (.iastore, 1) := by decide +kernel
theorem d_Mo_init_109 : decode c_Mo_init 109 = .ok (.dup, 1) := by decide +kernel
theorem d_Mo_init_110 : decode c_Mo_init 110 = .ok (.bipush 18, 2) := by decide +kernel
theorem d_Mo_init_112 : decode c_Mo_init 112 = .ok (.iconst 0, 1) := by decide +kernel
theorem d_Mo_init_113 : decode c_Mo_init 113 = .ok (.iastore, 1) := by decide +kernel
theorem d_Mo_init_114 : decode c_Mo_init 114 = .ok (.dup, 1) := by decide +kernel
theorem d_Mo_init_115 : decode c_Mo_init 115 = .ok (.bipush 19, 2) := by decide +kernel
theorem d_Mo_init_117 : decode c_Mo_init 117 = .ok (.iconst 0, 1) := by decide +kernel
theorem d_Mo_init_118 : decode c_Mo_init 118 = .ok (.iastore, 1) := by decide +kernel
theorem d_Mo_init_119 : decode c_Mo_init 119 = .ok (.dup, 1) := by decide +kernel
theorem d_Mo_init_120 : decode c_Mo_init 120 = .ok (.bipush 20, 2) := by decide +kernel
theorem d_Mo_init_122 : decode c_Mo_init 122 = .ok (.iconst 1, 1) := by decide +kernel
theorem d_Mo_init_123 : decode c_Mo_init 123 = .ok (.iastore, 1) := by decide +kernel
theorem d_Mo_init_124 : decode c_Mo_init 124 = .ok (.dup, 1) := by decide +kernel
theorem d_Mo_init_125 : decode c_Mo_init 125 = .ok (.bipush 21, 2) := by decide +kernel
theorem d_Mo_init_127 : decode c_Mo_init 127 = .ok (.iconst 1, 1) := by decide +kernel
theorem d_Mo_init_128 : decode c_Mo_init 128 = .ok (.iastore, 1) := by decide +kernel
theorem d_Mo_init_129 : decode c_Mo_init 129 = .ok (.dup, 1) := by decide +kernel
theorem d_Mo_init_130 : decode c_Mo_init 130 = .ok (.bipush 22, 2) := by decide +kernel
theorem d_Mo_init_132 : decode c_Mo_init 132 = .ok (.iconst 0, 1) := by decide +kernel
theorem d_Mo_init_133 : decode c_Mo_init 133 = .ok (.iastore, 1) := by decide +kernel
theorem d_Mo_init_134 : decode c_Mo_init 134 = .ok (.dup, 1) := by decide +kernel
theorem d_Mo_init_135 : decode c_Mo_init 135 = .ok (.bipush 23, 2) := by decide +kernel
theorem d_Mo_init_137 : decode c_Mo_init 137 = .ok (.iconst 0, 1) := by decide +kernel
theorem d_Mo_init_138 : decode c_Mo_init 138 = .ok (.iastore, 1) := by decide +kernel
theorem d_Mo_init_139 : decode c_Mo_init 139 = .ok (.dup, 1) := by decide +kernel
theorem d_Mo_init_140 : decode c_Mo_init 140 = .ok (.bipush 24, 2) := by decide +kernel
theorem d_Mo_init_142 : decode c_Mo_init 142 = .ok (.iconst 1, 1) := by decide +kernel
theorem d_Mo_init_143 : decode c_Mo_init 143 = .ok (.iastore, 1) := by decide +kernel
theorem d_Mo_init_144 : decode c_Mo_init 144 = .ok (.dup, 1) := by decide +kernel
theorem d_Mo_init_145 : decode c_Mo_init 145 = .ok (.bipush 25, 2) := by decide +kernel
theorem d_Mo_init_147 : decode c_Mo_init 147 = .ok (.iconst 3, 1) := by decide +kernel
theorem d_Mo_init_148 : decode c_Mo_init 148 = .ok (.iastore, 1) := by decide +kernel
theorem d_Mo_init_149 : decode c_Mo_init 149 = .ok (.dup, 1) := by decide +kernel
theorem d_Mo_init_150 : decode c_Mo_init 150 = .ok (.bipush 26, 2) := by decide +kernel
theorem d_Mo_init_152 : decode c_Mo_init 152 = .ok (.iconst 0, 1) := by decide +kernel
theorem d_Mo_init_153 : decode c_Mo_init 153 = .ok (.iastore, 1) := by decide +kernel
theorem d_Mo_init_154 : decode c_Mo_init 154 = .ok (.dup, 1) := by decide +kernel
theorem d_Mo_init_155 : decode c_Mo_init 155 = .ok (.bipush 27, 2) := by decide +kernel
theorem d_Mo_init_157 : decode c_Mo_init 157 = .ok (.iconst 0, 1) := by decide +kernel
theorem d_Mo_init_158 : decode c_Mo_init 158 = .ok (.iastore, 1) := by decide +kernel
theorem d_Mo_init_159 : decode c_Mo_init 159 = .ok (.dup, 1) := by decide +kernel
theorem d_Mo_init_160 : decode c_Mo_init 160 = .ok (.bipush 28, 2) := by decide +kernel
theorem d_Mo_init_162 : decode c_Mo_init 162 = .ok (.iconst 3, 1) := by decide +kernel
theorem d_Mo_init_163 : decode c_Mo_init 163 = .ok (.iastore, 1) := by decide +kernel
theorem d_Mo_init_164 : decode c_Mo_init 164 = .ok (.dup, 1) := by decide +kernel
theorem d_Mo_init_165 : decode c_Mo_init 165 = .ok (.bipush 29, 2) := by decide +kernel
theorem d_Mo_init_167 : decode c_Mo_init 167 = .ok (.iconst 1, 1) := by decide +kernel
theorem d_Mo_init_168 : decode c_Mo_init 168 = .ok (.iastore, 1) := by decide +kernel
theorem d_Mo_init_169 : decode c_Mo_init 169 = .ok (.dup, 1) := by decide +kernel
theorem d_Mo_init_170 : decode c_Mo_init 170 = .ok (.bipush 30, 2) := by decide +kernel
theorem d_Mo_init_172 : decode c_Mo_init 172 = .ok (.iconst 0, 1) := by decide +kernel
theorem d_Mo_init_173 : decode c_Mo_init 173 = .ok (.iastore, 1) := by decide +kernel
theorem d_Mo_init_174 : decode c_Mo_init 174 = .ok (.dup, 1) := by decide +kernel
theorem d_Mo_init_175 : decode c_Mo_init 175 = .ok (.bipush 31, 2) := by decide +kernel
theorem d_Mo_init_177 : decode c_Mo_init 177 = .ok (.iconst 0, 1) := by decide +kernel
theorem d_Mo_init_178 : decode c_Mo_init 178 = .ok (.iastore, 1) := by decide +kernel
theorem d_Mo_init_179 : decode c_Mo_init 179 = .ok (.dup, 1) := by decide +kernel
theorem d_Mo_init_180 : decode c_Mo_init 180 = .ok (.bipush 32, 2) := by decide +kernel
theorem d_Mo_init_182 : decode c_Mo_init 182 = .ok (.bipush 9, 2) := by decide +kernel
theorem d_Mo_init_184 : decode c_Mo_init 184 = .ok (.iastore, 1) := by decide +kernel
theorem d_Mo_init_185 : decode c_Mo_init 185 = .ok (.dup, 1) := by decide +kernel
theorem d_Mo_init_186 : decode c_Mo_init 186 = .ok (.bipush 33, 2) := by decide +kernel
theorem d_Mo_init_188 : decode c_Mo_init 188 = .ok (.iconst 1, 1) := by decide +kernel
theorem d_Mo_init_189 : decode c_Mo_init 189 = .ok (.iastore, 1) := by decide +kernel
theorem d_Mo_init_190 : decode c_Mo_init 190 = .ok (.dup, 1) := by decide +kernel
theorem d_Mo_init_191 : decode c_Mo_init 191 = .ok (.bipush 34, 2) := by decide +kernel
theorem d_Mo_init_193 : decode c_Mo_init 193 = .ok (.iconst 0, 1) := by decide +kernel
theorem d_Mo_init_194 : decode c_Mo_init 194 = .ok (.iastore, 1) := by decide +kernel
theorem d_Mo_init_195 : decode c_Mo_init 195 = .ok (.dup, 1) := by decide +kernel
theorem d_Mo_init_196 : decode c_Mo_init 196 = .ok (.bipush 35, 2) := by decide +kernel
theorem d_Mo_init_198 : decode c_Mo_init 198 = .ok (.iconst 0, 1) := by decide +kernel
theorem d_Mo_init_199 : decode c_Mo_init 199 = .ok (.iastore, 1) := by decide +kernel
theorem d_Mo_init_200 : decode c_Mo_init 200 = .ok (.putfield 13, 3) := by decide +kernel
theorem d_Mo_init_203 : decode c_Mo_init 203 = .ok (.aload_n 0, 1) := by decide +kernel
theorem d_Mo_init_204 : decode c_Mo_init 204 = .ok (.bipush 16, 2) := by decide +kernel
theorem d_Mo_init_206 : decode c_Mo_init 206 = .ok (.putfield 16, 3) := by decide +kernel
theorem d_Mo_init_209 : decode c_Mo_init 209 = .ok (.aload_n 0, 1) := by decide +kernel
theorem d_Mo_init_210 : decode c_Mo_init 210 = .ok (.bipush 32, 2) := by decide +kernel
theorem d_Mo_init_212 : decode c_Mo_init 212 = .ok (.newarray .int, 2) := by decide +kernel
theorem d_Mo_init_214 : decode c_Mo_init 214 = .ok (.putfield 20, 3) := by decide +kernel
theorem d_Mo_init_217 : decode c_Mo_init 217 = .ok (.aload_n 0, 1) := by decide +kernel
theorem d_Mo_init_218 : decode c_Mo_init 218 = .ok (.bipush 32, 2) := by decide +kernel
theorem d_Mo_init_220 : decode c_Mo_init 220 = .ok (.newarray .int, 2) := by decide +kernel
theorem d_Mo_init_222 : decode c_Mo_init 222 = .ok (.putfield 23, 3) := by decide +kernel
theorem d_Mo_init_225 : decode c_Mo_init 225 = .ok (.aload_n 0, 1) := by decide +kernel
theorem d_Mo_init_226 : decode c_Mo_init 226 = .ok (.bipush 64, 2) := by decide +kernel
theorem d_Mo_init_228 : decode c_Mo_init 228 = .ok (.newarray .int, 2) := by decide +kernel
theorem d_Mo_init_230 : decode c_Mo_init 230 = .ok (.putfield 26, 3) := by decide +kernel
theorem d_Mo_init_233 : decode c_Mo_init 233 = .ok (.aload_n 0, 1) := by decide +kernel
theorem d_Mo_init_234 : decode c_Mo_init 234 = .ok (.bipush 64, 2) := by decide +kernel
theorem d_Mo_init_236 : decode c_Mo_init 236 = .ok (.newarray .int, 2) := by decide +kernel
theorem d_Mo_init_238 : decode c_Mo_init 238 = .ok (.putfield 29, 3) := by decide +kernel
theorem d_Mo_init_241 : decode c_Mo_init 241 = .ok (.aload_n 0, 1) := by decide +kernel
theorem d_Mo_init_242 : decode c_Mo_init 242 = .ok (.bipush 64, 2) := by decide +kernel
theorem d_Mo_init_244 : decode c_Mo_init 244 = .ok (.newarray .int, 2) := by decide +kernel
theorem d_Mo_init_246 : decode c_Mo_init 246 = .ok (.putfield 32, 3) := by decide +kernel
theorem d_Mo_init_249 : decode c_Mo_init 249 = .ok (.aload_n 0, 1) := by decide +kernel
theorem d_Mo_init_250 : decode c_Mo_init 250 = .ok (.bipush 64, 2) := by decide +kernel
theorem d_Mo_init_252 : decode c_Mo_init 252 = .ok (.newarray .int, 2) := by decide +kernel
theorem d_Mo_init_254 : decode c_Mo_init 254 = .ok (.putfield 35, 3) := by decide +kernel
theorem d_Mo_init_257 : decode c_Mo_init 257 = .ok (.aload_n 0, 1) := by decide +kernel
theorem d_Mo_init_258 : decode c_Mo_init 258 = .ok (.sipush 256, 3) := by decide +kernel
theorem d_Mo_init_261 : decode c_Mo_init 261 = .ok (.newarray .int, 2) := by decide +kernel
theorem d_Mo_init_263 : decode c_Mo_init 263 = .ok (.putfield 38, 3) := by decide +kernel
theorem d_Mo_init_266 : decode c_Mo_init 266 = .ok (.aload_n 0, 1) := by decide +kernel
theorem d_Mo_init_267 : decode c_Mo_init 267 = .ok (.sipush 256, 3) := by decide +kernel
theorem d_Mo_init_270 : decode c_Mo_init 270 = .ok (.newarray .int, 2) := by decide +kernel
theorem d_Mo_init_272 : decode c_Mo_init 272 = .ok (.putfield 41, 3) := by decide +kernel
theorem d_Mo_init_275 : decode c_Mo_init 275 = .ok (.aload_n 0, 1) := by decide +kernel
theorem d_Mo_init_276 : decode c_Mo_init 276 = .ok (.sipush 320, 3) := by decide +kernel
theorem d_Mo_init_279 : decode c_Mo_init 279 = .ok (.newarray .int, 2) := by decide +kernel
theorem d_Mo_init_281 : decode c_Mo_init 281 = .ok (.putfield 44, 3) := by decide +kernel
theorem d_Mo_init_284 : decode c_Mo_init 284 = .ok (.aload_n 0, 1) := by decide +kernel
theorem d_Mo_init_285 : decode c_Mo_init 285 = .ok (.iconst 4, 1) := by decide +kernel
theorem d_Mo_init_286 : decode c_Mo_init 286 = .ok (.newarray .int, 2) := by decide +kernel
theorem d_Mo_init_288 : decode c_Mo_init 288 = .ok (.putfield 47, 3) := by decide +kernel
theorem d_Mo_init_291 : decode c_Mo_init 291 = .ok (.return_, 1) := by decide +kernel
theorem d_Mo_thrown_0 : decode c_Mo_thrown 0 = .ok (.aload_n 0, 1) := by decide +kernel
theorem d_Mo_thrown_1 : decode c_Mo_thrown 1 = .ok (.getfield 50, 3) := by decide +kernel
theorem d_Mo_thrown_4 : decode c_Mo_thrown 4 = .ok (.ireturn, 1) := by decide +kernel
theorem d_Mo_word_0 : decode c_Mo_word 0 = .ok (.aload_n 0, 1) := by decide +kernel
theorem d_Mo_word_1 : decode c_Mo_word 1 = .ok (.iconst 0, 1) := by decide +kernel
theorem d_Mo_word_2 : decode c_Mo_word 2 = .ok (.putfield 50, 3) := by decide +kernel
theorem d_Mo_word_5 : decode c_Mo_word 5 = .ok (.aload_n 0, 1) := by decide +kernel
theorem d_Mo_word_6 : decode c_Mo_word 6 = .ok (.getfield 53, 3) := by decide +kernel
theorem d_Mo_word_9 : decode c_Mo_word 9 = .ok (.sipush 256, 3) := by decide +kernel
theorem d_Mo_word_12 : decode c_Mo_word 12 = .ok (.if_icmp .ne 5, 3) := by decide +kernel
theorem d_Mo_word_15 : decode c_Mo_word 15 = .ok (.iconst (-1), 1) := by decide +kernel
theorem d_Mo_word_16 : decode c_Mo_word 16 = .ok (.ireturn, 1) := by decide +kernel
theorem d_Mo_word_17 : decode c_Mo_word 17 = .ok (.aload_n 0, 1) := by decide +kernel
theorem d_Mo_word_18 : decode c_Mo_word 18 = .ok (.getfield 7, 3) := by decide +kernel
theorem d_Mo_word_21 : decode c_Mo_word 21 = .ok (.aload_n 0, 1) := by decide +kernel
theorem d_Mo_word_22 : decode c_Mo_word 22 = .ok (.getfield 53, 3) := by decide +kernel
theorem d_Mo_word_25 : decode c_Mo_word 25 = .ok (.iload_n 1, 1) := by decide +kernel
theorem d_Mo_word_26 : decode c_Mo_word 26 = .ok (.iastore, 1) := by decide +kernel
theorem d_Mo_word_27 : decode c_Mo_word 27 = .ok (.aload_n 0, 1) := by decide +kernel
theorem d_Mo_word_28 : decode c_Mo_word 28 = .ok (.dup, 1) := by decide +kernel
theorem d_Mo_word_29 : decode c_Mo_word 29 = .ok (.getfield 53, 3) := by decide +kernel
theorem d_Mo_word_32 : decode c_Mo_word 32 = .ok (.iconst 1, 1) := by decide +kernel
theorem d_Mo_word_33 : decode c_Mo_word 33 = .ok (.iadd, 1) := by decide +kernel
theorem d_Mo_word_34 : decode c_Mo_word 34 = .ok (.putfield 53, 3) := by decide +kernel
theorem d_Mo_word_37 : decode c_Mo_word 37 = .ok (.aload_n 0, 1) := by decide +kernel
theorem d_Mo_word_38 : decode c_Mo_word 38 = .ok (.getfield 53, 3) := by decide +kernel
theorem d_Mo_word_41 : decode c_Mo_word 41 = .ok (.ireturn, 1) := by decide +kernel
theorem d_Mo_clear_0 : decode c_Mo_clear 0 = .ok (.aload_n 0, 1) := by decide +kernel
theorem d_Mo_clear_1 : decode c_Mo_clear 1 = .ok (.getfield 53, 3) := by decide +kernel
theorem d_Mo_clear_4 : decode c_Mo_clear 4 = .ok (.istore_n 1, 1) := by decide +kernel
theorem d_Mo_clear_5 : decode c_Mo_clear 5 = .ok (.aload_n 0, 1) := by decide +kernel
theorem d_Mo_clear_6 : decode c_Mo_clear 6 = .ok (.iconst 0, 1) := by decide +kernel
theorem d_Mo_clear_7 : decode c_Mo_clear 7 = .ok (.putfield 53, 3) := by decide +kernel
theorem d_Mo_clear_10 : decode c_Mo_clear 10 = .ok (.aload_n 0, 1) := by decide +kernel
theorem d_Mo_clear_11 : decode c_Mo_clear 11 = .ok (.invokevirtual 56, 3) := by decide +kernel
theorem d_Mo_clear_14 : decode c_Mo_clear 14 = .ok (.iload_n 1, 1) := by decide +kernel
theorem d_Mo_clear_15 : decode c_Mo_clear 15 = .ok (.ireturn, 1) := by decide +kernel
theorem d_Mo_begin_0 : decode c_Mo_begin 0 = .ok (.aload_n 0, 1) := by decide +kernel
theorem d_Mo_begin_1 : decode c_Mo_begin 1 = .ok (.iconst 0, 1) := by decide +kernel
theorem d_Mo_begin_2 : decode c_Mo_begin 2 = .ok (.putfield 50, 3) := by decide +kernel
theorem d_Mo_begin_5 : decode c_Mo_begin 5 = .ok (.aload_n 0, 1) := by decide +kernel
theorem d_Mo_begin_6 : decode c_Mo_begin 6 = .ok (.iconst 0, 1) := by decide +kernel
theorem d_Mo_begin_7 : decode c_Mo_begin 7 = .ok (.putfield 59, 3) := by decide +kernel
theorem d_Mo_begin_10 : decode c_Mo_begin 10 = .ok (.aload_n 0, 1) := by decide +kernel
theorem d_Mo_begin_11 : decode c_Mo_begin 11 = .ok (.iconst 0, 1) := by decide +kernel
theorem d_Mo_begin_12 : decode c_Mo_begin 12 = .ok (.putfield 62, 3) := by decide +kernel
theorem d_Mo_begin_15 : decode c_Mo_begin 15 = .ok (.aload_n 0, 1) := by decide +kernel
theorem d_Mo_begin_16 : decode c_Mo_begin 16 = .ok (.iconst 0, 1) := by decide +kernel
theorem d_Mo_begin_17 : decode c_Mo_begin 17 = .ok (.putfield 65, 3) := by decide +kernel
theorem d_Mo_begin_20 : decode c_Mo_begin 20 = .ok (.iconst 0, 1) := by decide +kernel
theorem d_Mo_begin_21 : decode c_Mo_begin 21 = .ok (.istore_n 1, 1) := by decide +kernel
theorem d_Mo_begin_22 : decode c_Mo_begin 22 = .ok (.iload_n 1, 1) := by decide +kernel
theorem d_Mo_begin_23 : decode c_Mo_begin 23 = .ok (.bipush 32, 2) := by decide +kernel
theorem d_Mo_begin_25 : decode c_Mo_begin 25 = .ok (.if_icmp .ge 23, 3) := by decide +kernel
theorem d_Mo_begin_28 : decode c_Mo_begin 28 = .ok (.aload_n 0, 1) := by decide +kernel
theorem d_Mo_begin_29 : decode c_Mo_begin 29 = .ok (.getfield 20, 3) := by decide +kernel
theorem d_Mo_begin_32 : decode c_Mo_begin 32 = .ok (.iload_n 1, 1) := by decide +kernel
theorem d_Mo_begin_33 : decode c_Mo_begin 33 = .ok (.iconst 0, 1) := by decide +kernel
theorem d_Mo_begin_34 : decode c_Mo_begin 34 = .ok (.iastore, 1) := by decide +kernel
theorem d_Mo_begin_35 : decode c_Mo_begin 35 = .ok (.aload_n 0, 1) := by decide +kernel
theorem d_Mo_begin_36 : decode c_Mo_begin 36 = .ok (.getfield 23, 3) := by decide +kernel
theorem d_Mo_begin_39 : decode c_Mo_begin 39 = .ok (.iload_n 1, 1) := by decide +kernel
theorem d_Mo_begin_40 : decode c_Mo_begin 40 = .ok (.iconst 0, 1) := by decide +kernel
theorem d_Mo_begin_41 : decode c_Mo_begin 41 = .ok (.iastore, 1) := by decide +kernel
theorem d_Mo_begin_42 : decode c_Mo_begin 42 = .ok (.iinc 1 1, 3) := by decide +kernel
theorem d_Mo_begin_45 : decode c_Mo_begin 45 = .ok (.goto (-23), 3) := by decide +kernel
theorem d_Mo_begin_48 : decode c_Mo_begin 48 = .ok (.iconst 0, 1) := by decide +kernel
theorem d_Mo_begin_49 : decode c_Mo_begin 49 = .ok (.istore_n 1, 1) := by decide +kernel
theorem d_Mo_begin_50 : decode c_Mo_begin 50 = .ok (.iload_n 1, 1) := by decide +kernel
theorem d_Mo_begin_51 : decode c_Mo_begin 51 = .ok (.bipush 64, 2) := by decide +kernel
theorem d_Mo_begin_53 : decode c_Mo_begin 53 = .ok (.if_icmp .ge 23, 3) := by decide +kernel
theorem d_Mo_begin_56 : decode c_Mo_begin 56 = .ok (.aload_n 0, 1) := by decide +kernel
theorem d_Mo_begin_57 : decode c_Mo_begin 57 = .ok (.getfield 26, 3) := by decide +kernel
theorem d_Mo_begin_60 : decode c_Mo_begin 60 = .ok (.iload_n 1, 1) := by decide +kernel
theorem d_Mo_begin_61 : decode c_Mo_begin 61 = .ok (.iconst 0, 1) := by decide +kernel
theorem d_Mo_begin_62 : decode c_Mo_begin 62 = .ok (.iastore, 1) := by decide +kernel
theorem d_Mo_begin_63 : decode c_Mo_begin 63 = .ok (.aload_n 0, 1) := by decide +kernel
theorem d_Mo_begin_64 : decode c_Mo_begin 64 = .ok (.getfield 29, 3) := by decide +kernel
theorem d_Mo_begin_67 : decode c_Mo_begin 67 = .ok (.iload_n 1, 1) := by decide +kernel
theorem d_Mo_begin_68 : decode c_Mo_begin 68 = .ok (.iconst 0, 1) := by decide +kernel
theorem d_Mo_begin_69 : decode c_Mo_begin 69 = .ok (.iastore, 1) := by decide +kernel
theorem d_Mo_begin_70 : decode c_Mo_begin 70 = .ok (.iinc 1 1, 3) := by decide +kernel
theorem d_Mo_begin_73 : decode c_Mo_begin 73 = .ok (.goto (-23), 3) := by decide +kernel
theorem d_Mo_begin_76 : decode c_Mo_begin 76 = .ok (.aload_n 0, 1) := by decide +kernel
theorem d_Mo_begin_77 : decode c_Mo_begin 77 = .ok (.iconst 0, 1) := by decide +kernel
theorem d_Mo_begin_78 : decode c_Mo_begin 78 = .ok (.putfield 68, 3) := by decide +kernel
theorem d_Mo_begin_81 : decode c_Mo_begin 81 = .ok (.aload_n 0, 1) := by decide +kernel
theorem d_Mo_begin_82 : decode c_Mo_begin 82 = .ok (.iconst 0, 1) := by decide +kernel
theorem d_Mo_begin_83 : decode c_Mo_begin 83 = .ok (.putfield 71, 3) := by decide +kernel
theorem d_Mo_begin_86 : decode c_Mo_begin 86 = .ok (.aload_n 0, 1) := by decide +kernel
theorem d_Mo_begin_87 : decode c_Mo_begin 87 = .ok (.iconst 0, 1) := by decide +kernel
theorem d_Mo_begin_88 : decode c_Mo_begin 88 = .ok (.putfield 74, 3) := by decide +kernel
theorem d_Mo_begin_91 : decode c_Mo_begin 91 = .ok (.aload_n 0, 1) := by decide +kernel
theorem d_Mo_begin_92 : decode c_Mo_begin 92 = .ok (.iconst 0, 1) := by decide +kernel
theorem d_Mo_begin_93 : decode c_Mo_begin 93 = .ok (.putfield 77, 3) := by decide +kernel
theorem d_Mo_begin_96 : decode c_Mo_begin 96 = .ok (.aload_n 0, 1) := by decide +kernel
theorem d_Mo_begin_97 : decode c_Mo_begin 97 = .ok (.iconst 0, 1) := by decide +kernel
theorem d_Mo_begin_98 : decode c_Mo_begin 98 = .ok (.putfield 80, 3) := by decide +kernel
theorem d_Mo_begin_101 : decode c_Mo_begin 101 = .ok (.return_, 1) := by decide +kernel
theorem d_Mo_noMask_0 : decode c_Mo_noMask 0 = .ok (.iload_n 0, 1) := by decide +kernel
theorem d_Mo_noMask_1 : decode c_Mo_noMask 1 = .ok (.ifCond .lt 9, 3) := by decide +kernel
theorem d_Mo_noMask_4 : decode c_Mo_noMask 4 = .ok (.iload_n 0, 1) := by decide +kernel
theorem d_Mo_noMask_5 : decode c_Mo_noMask 5 = .ok (.bipush 15, 2) := by decide +kernel
theorem d_Mo_noMask_7 : decode c_Mo_noMask 7 = .ok (.if_icmp .le 7, 3) := by decide +kernel
theorem d_Mo_noMask_10 : decode c_Mo_noMask 10 = .ok (.iconst 1, 1) := by decide +kernel
theorem d_Mo_noMask_11 : decode c_Mo_noMask 11 = .ok (.goto 4, 3) := by decide +kernel
theorem d_Mo_noMask_14 : decode c_Mo_noMask 14 = .ok (.iconst 0, 1) := by decide +kernel
theorem d_Mo_noMask_15 : decode c_Mo_noMask 15 = .ok (.ireturn, 1) := by decide +kernel
theorem d_Mo_rule_0 : decode c_Mo_rule 0 = .ok (.aload_n 0, 1) := by decide +kernel
theorem d_Mo_rule_1 : decode c_Mo_rule 1 = .ok (.iload_n 1, 1) := by decide +kernel
theorem d_Mo_rule_2 : decode c_Mo_rule 2 = .ok (.ifCond .lt 39, 3) := by decide +kernel
theorem d_Mo_rule_5 : decode c_Mo_rule 5 = .ok (.iload_n 1, 1) := by decide +kernel
theorem d_Mo_rule_6 : decode c_Mo_rule 6 = .ok (.bipush 8, 2) := by decide +kernel
theorem d_Mo_rule_8 : decode c_Mo_rule 8 = .ok (.if_icmp .gt 33, 3) := by decide +kernel
theorem d_Mo_rule_11 : decode c_Mo_rule 11 = .ok (.iload_n 2, 1) := by decide +kernel
theorem d_Mo_rule_12 : decode c_Mo_rule 12 = .ok (.invokestatic 83, 3) := by decide +kernel
theorem d_Mo_rule_15 : decode c_Mo_rule 15 = .ok (.ifCond .ne 26, 3) := by decide +kernel
theorem d_Mo_rule_18 : decode c_Mo_rule 18 = .ok (.iload_n 3, 1) := by decide +kernel
theorem d_Mo_rule_19 : decode c_Mo_rule 19 = .ok (.invokestatic 83, 3) := by decide +kernel
theorem d_Mo_rule_22 : decode c_Mo_rule 22 = .ok (.ifCond .ne 19, 3) := by decide +kernel
theorem d_Mo_rule_25 : decode c_Mo_rule 25 = .ok (.iload 4, 2) := by decide +kernel
theorem d_Mo_rule_27 : decode c_Mo_rule 27 = .ok (.invokestatic 83, 3) := by decide +kernel
theorem d_Mo_rule_30 : decode c_Mo_rule 30 = .ok (.ifCond .ne 11, 3) := by decide +kernel
theorem d_Mo_rule_33 : decode c_Mo_rule 33 = .ok (.iload 5, 2) := by decide +kernel
theorem d_Mo_rule_35 : decode c_Mo_rule 35 = .ok (.invokestatic 83, 3) := by decide +kernel
theorem d_Mo_rule_38 : decode c_Mo_rule 38 = .ok (.ifCond .eq 7, 3) := by decide +kernel
theorem d_Mo_rule_41 : decode c_Mo_rule 41 = .ok (.iconst 1, 1) := by decide +kernel
theorem d_Mo_rule_42 : decode c_Mo_rule 42 = .ok (.goto 4, 3) := by decide +kernel
theorem d_Mo_rule_45 : decode c_Mo_rule 45 = .ok (.iconst 0, 1) := by decide +kernel
theorem d_Mo_rule_46 : decode c_Mo_rule 46 = .ok (.putfield 50, 3) := by decide +kernel
theorem d_Mo_rule_49 : decode c_Mo_rule 49 = .ok (.aload_n 0, 1) := by decide +kernel
theorem d_Mo_rule_50 : decode c_Mo_rule 50 = .ok (.getfield 50, 3) := by decide +kernel
theorem d_Mo_rule_53 : decode c_Mo_rule 53 = .ok (.ifCond .le 4, 3) := by decide +kernel
theorem d_Mo_rule_56 : decode c_Mo_rule 56 = .ok (.return_, 1) := by decide +kernel
theorem d_Mo_rule_57 : decode c_Mo_rule 57 = .ok (.aload_n 0, 1) := by decide +kernel
theorem d_Mo_rule_58 : decode c_Mo_rule 58 = .ok (.getfield 13, 3) := by decide +kernel
theorem d_Mo_rule_61 : decode c_Mo_rule 61 = .ok (.iconst 4, 1) := by decide +kernel
theorem d_Mo_rule_62 : decode c_Mo_rule 62 = .ok (.iload_n 1, 1) := by decide +kernel
theorem d_Mo_rule_63 : decode c_Mo_rule 63 = .ok (.imul, 1) := by decide +kernel
theorem d_Mo_rule_64 : decode c_Mo_rule 64 = .ok (.iload_n 2, 1) := by decide +kernel
theorem d_Mo_rule_65 : decode c_Mo_rule 65 = .ok (.iastore, 1) := by decide +kernel
theorem d_Mo_rule_66 : decode c_Mo_rule 66 = .ok (.aload_n 0, 1) := by decide +kernel
theorem d_Mo_rule_67 : decode c_Mo_rule 67 = .ok (.getfield 13, 3) := by decide +kernel
theorem d_Mo_rule_70 : decode c_Mo_rule 70 = .ok (.iconst 4, 1) := by decide +kernel
theorem d_Mo_rule_71 : decode c_Mo_rule 71 = .ok (.iload_n 1, 1) := by decide +kernel
theorem d_Mo_rule_72 : decode c_Mo_rule 72 = .ok (.imul, 1) := by decide +kernel
theorem d_Mo_rule_73 : decode c_Mo_rule 73 = .ok (.iconst 1, 1) := by decide +kernel
theorem d_Mo_rule_74 : decode c_Mo_rule 74 = .ok (.iadd, 1) := by decide +kernel
theorem d_Mo_rule_75 : decode c_Mo_rule 75 = .ok (.iload_n 3, 1) := by decide +kernel
theorem d_Mo_rule_76 : decode c_Mo_rule 76 = .ok (.iastore, 1) := by decide +kernel
theorem d_Mo_rule_77 : decode c_Mo_rule 77 = .ok (.aload_n 0, 1) := by decide +kernel
theorem d_Mo_rule_78 : decode c_Mo_rule 78 = .ok (.getfield 13, 3) := by decide +kernel
theorem d_Mo_rule_81 : decode c_Mo_rule 81 = .ok (.iconst 4, 1) := by decide +kernel
theorem d_Mo_rule_82 : decode c_Mo_rule 82 = .ok (.iload_n 1, 1) := by decide +kernel
theorem d_Mo_rule_83 : decode c_Mo_rule 83 = .ok (.imul, 1) := by decide +kernel
theorem d_Mo_rule_84 : decode c_Mo_rule 84 = .ok (.iconst 2, 1) := by decide +kernel
theorem d_Mo_rule_85 : decode c_Mo_rule 85 = .ok (.iadd, 1) := by decide +kernel
theorem d_Mo_rule_86 : decode c_Mo_rule 86 = .ok (.iload 4, 2) := by decide +kernel
theorem d_Mo_rule_88 : decode c_Mo_rule 88 = .ok (.iastore, 1) := by decide +kernel
theorem d_Mo_rule_89 : decode c_Mo_rule 89 = .ok (.aload_n 0, 1) := by decide +kernel
theorem d_Mo_rule_90 : decode c_Mo_rule 90 = .ok (.getfield 13, 3) := by decide +kernel
theorem d_Mo_rule_93 : decode c_Mo_rule 93 = .ok (.iconst 4, 1) := by decide +kernel
theorem d_Mo_rule_94 : decode c_Mo_rule 94 = .ok (.iload_n 1, 1) := by decide +kernel
theorem d_Mo_rule_95 : decode c_Mo_rule 95 = .ok (.imul, 1) := by decide +kernel
theorem d_Mo_rule_96 : decode c_Mo_rule 96 = .ok (.iconst 3, 1) := by decide +kernel
theorem d_Mo_rule_97 : decode c_Mo_rule 97 = .ok (.iadd, 1) := by decide +kernel
theorem d_Mo_rule_98 : decode c_Mo_rule 98 = .ok (.iload 5, 2) := by decide +kernel
theorem d_Mo_rule_100 : decode c_Mo_rule 100 = .ok (.iastore, 1) := by decide +kernel
theorem d_Mo_rule_101 : decode c_Mo_rule 101 = .ok (.aload_n 0, 1) := by decide +kernel
theorem d_Mo_rule_102 : decode c_Mo_rule 102 = .ok (.iconst 0, 1) := by decide +kernel
theorem d_Mo_rule_103 : decode c_Mo_rule 103 = .ok (.putfield 80, 3) := by decide +kernel
theorem d_Mo_rule_106 : decode c_Mo_rule 106 = .ok (.return_, 1) := by decide +kernel
theorem d_Mo_cache_0 : decode c_Mo_cache 0 = .ok (.aload_n 0, 1) := by decide +kernel
theorem d_Mo_cache_1 : decode c_Mo_cache 1 = .ok (.iload_n 1, 1) := by decide +kernel
theorem d_Mo_cache_2 : decode c_Mo_cache 2 = .ok (.iconst 1, 1) := by decide +kernel
theorem d_Mo_cache_3 : decode c_Mo_cache 3 = .ok (.if_icmp .lt 9, 3) := by decide +kernel
theorem d_Mo_cache_6 : decode c_Mo_cache 6 = .ok (.iload_n 1, 1) := by decide +kernel
theorem d_Mo_cache_7 : decode c_Mo_cache 7 = .ok (.bipush 64, 2) := by decide +kernel
theorem d_Mo_cache_9 : decode c_Mo_cache 9 = .ok (.if_icmp .le 7, 3) := by decide +kernel
theorem d_Mo_cache_12 : decode c_Mo_cache 12 = .ok (.iconst 1, 1) := by decide +kernel
theorem d_Mo_cache_13 : decode c_Mo_cache 13 = .ok (.goto 4, 3) := by decide +kernel
theorem d_Mo_cache_16 : decode c_Mo_cache 16 = .ok (.iconst 0, 1) := by decide +kernel
theorem d_Mo_cache_17 : decode c_Mo_cache 17 = .ok (.putfield 50, 3) := by decide +kernel
theorem d_Mo_cache_20 : decode c_Mo_cache 20 = .ok (.aload_n 0, 1) := by decide +kernel
theorem d_Mo_cache_21 : decode c_Mo_cache 21 = .ok (.getfield 50, 3) := by decide +kernel
theorem d_Mo_cache_24 : decode c_Mo_cache 24 = .ok (.ifCond .le 5, 3) := by decide +kernel
theorem d_Mo_cache_27 : decode c_Mo_cache 27 = .ok (.iconst 0, 1) := by decide +kernel
theorem d_Mo_cache_28 : decode c_Mo_cache 28 = .ok (.ireturn, 1) := by decide +kernel
theorem d_Mo_cache_29 : decode c_Mo_cache 29 = .ok (.aload_n 0, 1) := by decide +kernel
theorem d_Mo_cache_30 : decode c_Mo_cache 30 = .ok (.getfield 16, 3) := by decide +kernel
theorem d_Mo_cache_33 : decode c_Mo_cache 33 = .ok (.istore_n 2, 1) := by decide +kernel
theorem d_Mo_cache_34 : decode c_Mo_cache 34 = .ok (.aload_n 0, 1) := by decide +kernel
theorem d_Mo_cache_35 : decode c_Mo_cache 35 = .ok (.iload_n 1, 1) := by decide +kernel
theorem d_Mo_cache_36 : decode c_Mo_cache 36 = .ok (.putfield 16, 3) := by decide +kernel
theorem d_Mo_cache_39 : decode c_Mo_cache 39 = .ok (.aload_n 0, 1) := by decide +kernel
theorem d_Mo_cache_40 : decode c_Mo_cache 40 = .ok (.iconst 0, 1) := by decide +kernel
theorem d_Mo_cache_41 : decode c_Mo_cache 41 = .ok (.putfield 80, 3) := by decide +kernel
theorem d_Mo_cache_44 : decode c_Mo_cache 44 = .ok (.iload_n 2, 1) := by decide +kernel
theorem d_Mo_cache_45 : decode c_Mo_cache 45 = .ok (.ireturn, 1) := by decide +kernel
theorem d_Mo_set_0 : decode c_Mo_set 0 = .ok (.aload_n 0, 1) := by decide +kernel
theorem d_Mo_set_1 : decode c_Mo_set 1 = .ok (.iload_n 1, 1) := by decide +kernel
theorem d_Mo_set_2 : decode c_Mo_set 2 = .ok (.iconst 1, 1) := by decide +kernel
theorem d_Mo_set_3 : decode c_Mo_set 3 = .ok (.if_icmp .lt 9, 3) := by decide +kernel
theorem d_Mo_set_6 : decode c_Mo_set 6 = .ok (.iload_n 1, 1) := by decide +kernel
theorem d_Mo_set_7 : decode c_Mo_set 7 = .ok (.bipush 31, 2) := by decide +kernel
theorem d_Mo_set_9 : decode c_Mo_set 9 = .ok (.if_icmp .le 7, 3) := by decide +kernel
theorem d_Mo_set_12 : decode c_Mo_set 12 = .ok (.iconst 1, 1) := by decide +kernel
theorem d_Mo_set_13 : decode c_Mo_set 13 = .ok (.goto 4, 3) := by decide +kernel
theorem d_Mo_set_16 : decode c_Mo_set 16 = .ok (.iconst 0, 1) := by decide +kernel
theorem d_Mo_set_17 : decode c_Mo_set 17 = .ok (.putfield 50, 3) := by decide +kernel
theorem d_Mo_set_20 : decode c_Mo_set 20 = .ok (.aload_n 0, 1) := by decide +kernel
theorem d_Mo_set_21 : decode c_Mo_set 21 = .ok (.getfield 50, 3) := by decide +kernel
theorem d_Mo_set_24 : decode c_Mo_set 24 = .ok (.ifCond .ne 17, 3) := by decide +kernel
theorem d_Mo_set_27 : decode c_Mo_set 27 = .ok (.aload_n 0, 1) := by decide +kernel
theorem d_Mo_set_28 : decode c_Mo_set 28 = .ok (.getfield 20, 3) := by decide +kernel
theorem d_Mo_set_31 : decode c_Mo_set 31 = .ok (.iload_n 1, 1) := by decide +kernel
theorem d_Mo_set_32 : decode c_Mo_set 32 = .ok (.iload_n 2, 1) := by decide +kernel
theorem d_Mo_set_33 : decode c_Mo_set 33 = .ok (.iastore, 1) := by decide +kernel
theorem d_Mo_set_34 : decode c_Mo_set 34 = .ok (.aload_n 0, 1) := by decide +kernel
theorem d_Mo_set_35 : decode c_Mo_set 35 = .ok (.getfield 23, 3) := by decide +kernel
theorem d_Mo_set_38 : decode c_Mo_set 38 = .ok (.iload_n 1, 1) := by decide +kernel
theorem d_Mo_set_39 : decode c_Mo_set 39 = .ok (.iload_n 3, 1) := by decide +kernel
theorem d_Mo_set_40 : decode c_Mo_set 40 = .ok (.iastore, 1) := by decide +kernel
theorem d_Mo_set_41 : decode c_Mo_set 41 = .ok (.return_, 1) := by decide +kernel
theorem d_Mo_poke_0 : decode c_Mo_poke 0 = .ok (.aload_n 0, 1) := by decide +kernel
theorem d_Mo_poke_1 : decode c_Mo_poke 1 = .ok (.iload_n 1, 1) := by decide +kernel
theorem d_Mo_poke_2 : decode c_Mo_poke 2 = .ok (.ifCond .lt 9, 3) := by decide +kernel
theorem d_Mo_poke_5 : decode c_Mo_poke 5 = .ok (.iload_n 1, 1) := by decide +kernel
theorem d_Mo_poke_6 : decode c_Mo_poke 6 = .ok (.bipush 63, 2) := by decide +kernel
theorem d_Mo_poke_8 : decode c_Mo_poke 8 = .ok (.if_icmp .le 7, 3) := by decide +kernel
theorem d_Mo_poke_11 : decode c_Mo_poke 11 = .ok (.iconst 1, 1) := by decide +kernel
theorem d_Mo_poke_12 : decode c_Mo_poke 12 = .ok (.goto 4, 3) := by decide +kernel
theorem d_Mo_poke_15 : decode c_Mo_poke 15 = .ok (.iconst 0, 1) := by decide +kernel
theorem d_Mo_poke_16 : decode c_Mo_poke 16 = .ok (.putfield 50, 3) := by decide +kernel
theorem d_Mo_poke_19 : decode c_Mo_poke 19 = .ok (.aload_n 0, 1) := by decide +kernel
theorem d_Mo_poke_20 : decode c_Mo_poke 20 = .ok (.getfield 50, 3) := by decide +kernel
theorem d_Mo_poke_23 : decode c_Mo_poke 23 = .ok (.ifCond .ne 17, 3) := by decide +kernel
theorem d_Mo_poke_26 : decode c_Mo_poke 26 = .ok (.aload_n 0, 1) := by decide +kernel
theorem d_Mo_poke_27 : decode c_Mo_poke 27 = .ok (.getfield 26, 3) := by decide +kernel
theorem d_Mo_poke_30 : decode c_Mo_poke 30 = .ok (.iload_n 1, 1) := by decide +kernel
theorem d_Mo_poke_31 : decode c_Mo_poke 31 = .ok (.iload_n 2, 1) := by decide +kernel
theorem d_Mo_poke_32 : decode c_Mo_poke 32 = .ok (.iastore, 1) := by decide +kernel
theorem d_Mo_poke_33 : decode c_Mo_poke 33 = .ok (.aload_n 0, 1) := by decide +kernel
theorem d_Mo_poke_34 : decode c_Mo_poke 34 = .ok (.getfield 29, 3) := by decide +kernel
theorem d_Mo_poke_37 : decode c_Mo_poke 37 = .ok (.iload_n 1, 1) := by decide +kernel
theorem d_Mo_poke_38 : decode c_Mo_poke 38 = .ok (.iload_n 3, 1) := by decide +kernel
theorem d_Mo_poke_39 : decode c_Mo_poke 39 = .ok (.iastore, 1) := by decide +kernel
theorem d_Mo_poke_40 : decode c_Mo_poke 40 = .ok (.return_, 1) := by decide +kernel
theorem d_Mo_input_0 : decode c_Mo_input 0 = .ok (.aload_n 0, 1) := by decide +kernel
theorem d_Mo_input_1 : decode c_Mo_input 1 = .ok (.iconst 0, 1) := by decide +kernel
theorem d_Mo_input_2 : decode c_Mo_input 2 = .ok (.putfield 50, 3) := by decide +kernel
theorem d_Mo_input_5 : decode c_Mo_input 5 = .ok (.aload_n 0, 1) := by decide +kernel
theorem d_Mo_input_6 : decode c_Mo_input 6 = .ok (.getfield 68, 3) := by decide +kernel
theorem d_Mo_input_9 : decode c_Mo_input 9 = .ok (.bipush 64, 2) := by decide +kernel
theorem d_Mo_input_11 : decode c_Mo_input 11 = .ok (.if_icmp .ne 5, 3) := by decide +kernel
theorem d_Mo_input_14 : decode c_Mo_input 14 = .ok (.iconst (-1), 1) := by decide +kernel
theorem d_Mo_input_15 : decode c_Mo_input 15 = .ok (.ireturn, 1) := by decide +kernel
theorem d_Mo_input_16 : decode c_Mo_input 16 = .ok (.aload_n 0, 1) := by decide +kernel
theorem d_Mo_input_17 : decode c_Mo_input 17 = .ok (.getfield 32, 3) := by decide +kernel
theorem d_Mo_input_20 : decode c_Mo_input 20 = .ok (.aload_n 0, 1) := by decide +kernel
theorem d_Mo_input_21 : decode c_Mo_input 21 = .ok (.getfield 68, 3) := by decide +kernel
theorem d_Mo_input_24 : decode c_Mo_input 24 = .ok (.iload_n 1, 1) := by decide +kernel
theorem d_Mo_input_25 : decode c_Mo_input 25 = .ok (.iastore, 1) := by decide +kernel
theorem d_Mo_input_26 : decode c_Mo_input 26 = .ok (.aload_n 0, 1) := by decide +kernel
theorem d_Mo_input_27 : decode c_Mo_input 27 = .ok (.getfield 35, 3) := by decide +kernel
theorem d_Mo_input_30 : decode c_Mo_input 30 = .ok (.aload_n 0, 1) := by decide +kernel
theorem d_Mo_input_31 : decode c_Mo_input 31 = .ok (.getfield 68, 3) := by decide +kernel
theorem d_Mo_input_34 : decode c_Mo_input 34 = .ok (.iload_n 2, 1) := by decide +kernel
theorem d_Mo_input_35 : decode c_Mo_input 35 = .ok (.iastore, 1) := by decide +kernel
theorem d_Mo_input_36 : decode c_Mo_input 36 = .ok (.aload_n 0, 1) := by decide +kernel
theorem d_Mo_input_37 : decode c_Mo_input 37 = .ok (.dup, 1) := by decide +kernel
theorem d_Mo_input_38 : decode c_Mo_input 38 = .ok (.getfield 68, 3) := by decide +kernel
theorem d_Mo_input_41 : decode c_Mo_input 41 = .ok (.iconst 1, 1) := by decide +kernel
theorem d_Mo_input_42 : decode c_Mo_input 42 = .ok (.iadd, 1) := by decide +kernel
theorem d_Mo_input_43 : decode c_Mo_input 43 = .ok (.putfield 68, 3) := by decide +kernel
theorem d_Mo_input_46 : decode c_Mo_input 46 = .ok (.aload_n 0, 1) := by decide +kernel
theorem d_Mo_input_47 : decode c_Mo_input 47 = .ok (.getfield 68, 3) := by decide +kernel
theorem d_Mo_input_50 : decode c_Mo_input 50 = .ok (.ireturn, 1) := by decide +kernel
theorem d_Mo_f_0 : decode c_Mo_f 0 = .ok (.iload_n 0, 1) := by decide +kernel
theorem d_Mo_f_1 : decode c_Mo_f 1 = .ok (.bipush 12, 2) := by decide +kernel
theorem d_Mo_f_3 : decode c_Mo_f 3 = .ok (.ishr, 1) := by decide +kernel
theorem d_Mo_f_4 : decode c_Mo_f 4 = .ok (.bipush 7, 2) := by decide +kernel
theorem d_Mo_f_6 : decode c_Mo_f 6 = .ok (.iand, 1) := by decide +kernel
theorem d_Mo_f_7 : decode c_Mo_f 7 = .ok (.ireturn, 1) := by decide +kernel
theorem d_Mo_a_0 : decode c_Mo_a 0 = .ok (.iload_n 0, 1) := by decide +kernel
theorem d_Mo_a_1 : decode c_Mo_a 1 = .ok (.bipush 15, 2) := by decide +kernel
theorem d_Mo_a_3 : decode c_Mo_a 3 = .ok (.ishr, 1) := by decide +kernel
theorem d_Mo_a_4 : decode c_Mo_a 4 = .ok (.bipush 31, 2) := by decide +kernel
theorem d_Mo_a_6 : decode c_Mo_a 6 = .ok (.iand, 1) := by decide +kernel
theorem d_Mo_a_7 : decode c_Mo_a 7 = .ok (.ireturn, 1) := by decide +kernel
theorem d_Mo_b_0 : decode c_Mo_b 0 = .ok (.iload_n 0, 1) := by decide +kernel
theorem d_Mo_b_1 : decode c_Mo_b 1 = .ok (.bipush 20, 2) := by decide +kernel
theorem d_Mo_b_3 : decode c_Mo_b 3 = .ok (.ishr, 1) := by decide +kernel
theorem d_Mo_b_4 : decode c_Mo_b 4 = .ok (.bipush 31, 2) := by decide +kernel
theorem d_Mo_b_6 : decode c_Mo_b 6 = .ok (.iand, 1) := by decide +kernel
theorem d_Mo_b_7 : decode c_Mo_b 7 = .ok (.ireturn, 1) := by decide +kernel
theorem d_Mo_d_0 : decode c_Mo_d 0 = .ok (.iload_n 0, 1) := by decide +kernel
theorem d_Mo_d_1 : decode c_Mo_d 1 = .ok (.bipush 7, 2) := by decide +kernel
theorem d_Mo_d_3 : decode c_Mo_d 3 = .ok (.ishr, 1) := by decide +kernel
theorem d_Mo_d_4 : decode c_Mo_d 4 = .ok (.bipush 31, 2) := by decide +kernel
theorem d_Mo_d_6 : decode c_Mo_d 6 = .ok (.iand, 1) := by decide +kernel
theorem d_Mo_d_7 : decode c_Mo_d 7 = .ok (.ireturn, 1) := by decide +kernel
theorem d_Mo_g_0 : decode c_Mo_g 0 = .ok (.iload_n 0, 1) := by decide +kernel
theorem d_Mo_g_1 : decode c_Mo_g 1 = .ok (.bipush 25, 2) := by decide +kernel
theorem d_Mo_g_3 : decode c_Mo_g 3 = .ok (.ishr, 1) := by decide +kernel
theorem d_Mo_g_4 : decode c_Mo_g 4 = .ok (.bipush 127, 2) := by decide +kernel
theorem d_Mo_g_6 : decode c_Mo_g 6 = .ok (.iand, 1) := by decide +kernel
theorem d_Mo_g_7 : decode c_Mo_g 7 = .ok (.ireturn, 1) := by decide +kernel
theorem d_Mo_groupOf_0 : decode c_Mo_groupOf 0 = .ok (.iload_n 0, 1) := by decide +kernel
theorem d_Mo_groupOf_1 : decode c_Mo_groupOf 1 = .ok (.invokestatic 87, 3) := by decide +kernel
theorem d_Mo_groupOf_4 : decode c_Mo_groupOf 4 = .ok (.istore_n 1, 1) := by decide +kernel
theorem d_Mo_groupOf_5 : decode c_Mo_groupOf 5 = .ok (.iload_n 0, 1) := by decide +kernel
theorem d_Mo_groupOf_6 : decode c_Mo_groupOf 6 = .ok (.invokestatic 91, 3) := by decide +kernel
theorem d_Mo_groupOf_9 : decode c_Mo_groupOf 9 = .ok (.istore_n 2, 1) := by decide +kernel
theorem d_Mo_groupOf_10 : decode c_Mo_groupOf 10 = .ok (.iload_n 0, 1) := by decide +kernel
theorem d_Mo_groupOf_11 : decode c_Mo_groupOf 11 = .ok (.bipush 127, 2) := by decide +kernel
theorem d_Mo_groupOf_13 : decode c_Mo_groupOf 13 = .ok (.iand, 1) := by decide +kernel
theorem d_Mo_groupOf_14 : decode c_Mo_groupOf 14 = .ok (.lookupswitch 247 #[(3, 148), (11, 216), (19, 115), (23, 146), (35, 168), (51, 90), (55, 146), (99, 187), (103, 205), (111, 203)], 90) := by decide +kernel
theorem d_Mo_groupOf_104 : decode c_Mo_groupOf 104 = .ok (.iload_n 2, 1) := by decide +kernel
theorem d_Mo_groupOf_105 : decode c_Mo_groupOf 105 = .ok (.ifCond .eq 18, 3) := by decide +kernel
theorem d_Mo_groupOf_108 : decode c_Mo_groupOf 108 = .ok (.iload_n 2, 1) := by decide +kernel
theorem d_Mo_groupOf_109 : decode c_Mo_groupOf 109 = .ok (.bipush 32, 2) := by decide +kernel
theorem d_Mo_groupOf_111 : decode c_Mo_groupOf 111 = .ok (.if_icmp .ne 16, 3) := by decide +kernel
theorem d_Mo_groupOf_114 : decode c_Mo_groupOf 114 = .ok (.iload_n 1, 1) := by decide +kernel
theorem d_Mo_groupOf_115 : decode c_Mo_groupOf 115 = .ok (.ifCond .eq 8, 3) := by decide +kernel
theorem d_Mo_groupOf_118 : decode c_Mo_groupOf 118 = .ok (.iload_n 1, 1) := by decide +kernel
theorem d_Mo_groupOf_119 : decode c_Mo_groupOf 119 = .ok (.iconst 5, 1) := by decide +kernel
theorem d_Mo_groupOf_120 : decode c_Mo_groupOf 120 = .ok (.if_icmp .ne 7, 3) := by decide +kernel
theorem d_Mo_groupOf_123 : decode c_Mo_groupOf 123 = .ok (.iconst 0, 1) := by decide +kernel
theorem d_Mo_groupOf_124 : decode c_Mo_groupOf 124 = .ok (.goto 4, 3) := by decide +kernel
theorem d_Mo_groupOf_127 : decode c_Mo_groupOf 127 = .ok (.iconst (-1), 1) := by decide +kernel
theorem d_Mo_groupOf_128 : decode c_Mo_groupOf 128 = .ok (.ireturn, 1) := by decide +kernel
theorem d_Mo_groupOf_129 : decode c_Mo_groupOf 129 = .ok (.iload_n 1, 1) := by decide +kernel
theorem d_Mo_groupOf_130 : decode c_Mo_groupOf 130 = .ok (.iconst 1, 1) := by decide +kernel
theorem d_Mo_groupOf_131 : decode c_Mo_groupOf 131 = .ok (.if_icmp .eq 8, 3) := by decide +kernel
theorem d_Mo_groupOf_134 : decode c_Mo_groupOf 134 = .ok (.iload_n 1, 1) := by decide +kernel
theorem d_Mo_groupOf_135 : decode c_Mo_groupOf 135 = .ok (.iconst 5, 1) := by decide +kernel
theorem d_Mo_groupOf_136 : decode c_Mo_groupOf 136 = .ok (.if_icmp .ne 18, 3) := by decide +kernel
theorem d_Mo_groupOf_139 : decode c_Mo_groupOf 139 = .ok (.iload_n 2, 1) := by decide +kernel
theorem d_Mo_groupOf_140 : decode c_Mo_groupOf 140 = .ok (.ifCond .eq 14, 3) := by decide +kernel
theorem d_Mo_groupOf_143 : decode c_Mo_groupOf 143 = .ok (.iload_n 1, 1) := by decide +kernel
theorem d_Mo_groupOf_144 : decode c_Mo_groupOf 144 = .ok (.iconst 5, 1) := by decide +kernel
theorem d_Mo_groupOf_145 : decode c_Mo_groupOf 145 = .ok (.if_icmp .ne 13, 3) := by decide +kernel
theorem d_Mo_groupOf_148 : decode c_Mo_groupOf 148 = .ok (.iload_n 2, 1) := by decide +kernel
theorem d_Mo_groupOf_149 : decode c_Mo_groupOf 149 = .ok (.bipush 32, 2) := by decide +kernel
theorem d_Mo_groupOf_151 : decode c_Mo_groupOf 151 = .ok (.if_icmp .ne 7, 3) := by decide +kernel
theorem d_Mo_groupOf_154 : decode c_Mo_groupOf 154 = .ok (.iconst 0, 1) := by decide +kernel
theorem d_Mo_groupOf_155 : decode c_Mo_groupOf 155 = .ok (.goto 4, 3) := by decide +kernel
theorem d_Mo_groupOf_158 : decode c_Mo_groupOf 158 = .ok (.iconst (-1), 1) := by decide +kernel
theorem d_Mo_groupOf_159 : decode c_Mo_groupOf 159 = .ok (.ireturn, 1) := by decide +kernel
theorem d_Mo_groupOf_160 : decode c_Mo_groupOf 160 = .ok (.iconst 0, 1) := by decide +kernel
theorem d_Mo_groupOf_161 : decode c_Mo_groupOf 161 = .ok (.ireturn, 1) := by decide +kernel
theorem d_Mo_groupOf_162 : decode c_Mo_groupOf 162 = .ok (.iload_n 1, 1) := by decide +kernel
theorem d_Mo_groupOf_163 : decode c_Mo_groupOf 163 = .ok (.ifCond .eq 13, 3) := by decide +kernel
theorem d_Mo_groupOf_166 : decode c_Mo_groupOf 166 = .ok (.iload_n 1, 1) := by decide +kernel
theorem d_Mo_groupOf_167 : decode c_Mo_groupOf 167 = .ok (.iconst 2, 1) := by decide +kernel
theorem d_Mo_groupOf_168 : decode c_Mo_groupOf 168 = .ok (.if_icmp .eq 8, 3) := by decide +kernel
theorem d_Mo_groupOf_171 : decode c_Mo_groupOf 171 = .ok (.iload_n 1, 1) := by decide +kernel
theorem d_Mo_groupOf_172 : decode c_Mo_groupOf 172 = .ok (.iconst 4, 1) := by decide +kernel
theorem d_Mo_groupOf_173 : decode c_Mo_groupOf 173 = .ok (.if_icmp .ne 7, 3) := by decide +kernel
theorem d_Mo_groupOf_176 : decode c_Mo_groupOf 176 = .ok (.iconst 1, 1) := by decide +kernel
theorem d_Mo_groupOf_177 : decode c_Mo_groupOf 177 = .ok (.goto 4, 3) := by decide +kernel
theorem d_Mo_groupOf_180 : decode c_Mo_groupOf 180 = .ok (.iconst (-1), 1) := by decide +kernel
theorem d_Mo_groupOf_181 : decode c_Mo_groupOf 181 = .ok (.ireturn, 1) := by decide +kernel
theorem d_Mo_groupOf_182 : decode c_Mo_groupOf 182 = .ok (.iload_n 1, 1) := by decide +kernel
theorem d_Mo_groupOf_183 : decode c_Mo_groupOf 183 = .ok (.iconst 2, 1) := by decide +kernel
theorem d_Mo_groupOf_184 : decode c_Mo_groupOf 184 = .ok (.if_icmp .ne 7, 3) := by decide +kernel
theorem d_Mo_groupOf_187 : decode c_Mo_groupOf 187 = .ok (.iconst 2, 1) := by decide +kernel
theorem d_Mo_groupOf_188 : decode c_Mo_groupOf 188 = .ok (.goto 12, 3) := by decide +kernel
theorem d_Mo_groupOf_191 : decode c_Mo_groupOf 191 = .ok (.iload_n 1, 1) := by decide +kernel
theorem d_Mo_groupOf_192 : decode c_Mo_groupOf 192 = .ok (.ifCond .ne 7, 3) := by decide +kernel
theorem d_Mo_groupOf_195 : decode c_Mo_groupOf 195 = .ok (.iconst 3, 1) := by decide +kernel
theorem d_Mo_groupOf_196 : decode c_Mo_groupOf 196 = .ok (.goto 4, 3) := by decide +kernel
theorem d_Mo_groupOf_199 : decode c_Mo_groupOf 199 = .ok (.iconst (-1), 1) := by decide +kernel
theorem d_Mo_groupOf_200 : decode c_Mo_groupOf 200 = .ok (.ireturn, 1) := by decide +kernel
theorem d_Mo_groupOf_201 : decode c_Mo_groupOf 201 = .ok (.iload_n 1, 1) := by decide +kernel
theorem d_Mo_groupOf_202 : decode c_Mo_groupOf 202 = .ok (.iconst 2, 1) := by decide +kernel
theorem d_Mo_groupOf_203 : decode c_Mo_groupOf 203 = .ok (.if_icmp .eq 8, 3) := by decide +kernel
theorem d_Mo_groupOf_206 : decode c_Mo_groupOf 206 = .ok (.iload_n 1, 1) := by decide +kernel
theorem d_Mo_groupOf_207 : decode c_Mo_groupOf 207 = .ok (.iconst 3, 1) := by decide +kernel
theorem d_Mo_groupOf_208 : decode c_Mo_groupOf 208 = .ok (.if_icmp .ne 7, 3) := by decide +kernel
theorem d_Mo_groupOf_211 : decode c_Mo_groupOf 211 = .ok (.iconst (-1), 1) := by decide +kernel
theorem d_Mo_groupOf_212 : decode c_Mo_groupOf 212 = .ok (.goto 4, 3) := by decide +kernel
theorem d_Mo_groupOf_215 : decode c_Mo_groupOf 215 = .ok (.iconst 4, 1) := by decide +kernel
theorem d_Mo_groupOf_216 : decode c_Mo_groupOf 216 = .ok (.ireturn, 1) := by decide +kernel
theorem d_Mo_groupOf_217 : decode c_Mo_groupOf 217 = .ok (.iconst 5, 1) := by decide +kernel
theorem d_Mo_groupOf_218 : decode c_Mo_groupOf 218 = .ok (.ireturn, 1) := by decide +kernel
theorem d_Mo_groupOf_219 : decode c_Mo_groupOf 219 = .ok (.iload_n 1, 1) := by decide +kernel
theorem d_Mo_groupOf_220 : decode c_Mo_groupOf 220 = .ok (.ifCond .ne 8, 3) := by decide +kernel
theorem d_Mo_groupOf_223 : decode c_Mo_groupOf 223 = .ok (.bipush 6, 2) := by decide +kernel
theorem d_Mo_groupOf_225 : decode c_Mo_groupOf 225 = .ok (.goto 4, 3) := by decide +kernel
theorem d_Mo_groupOf_228 : decode c_Mo_groupOf 228 = .ok (.iconst (-1), 1) := by decide +kernel
theorem d_Mo_groupOf_229 : decode c_Mo_groupOf 229 = .ok (.ireturn, 1) := by decide +kernel
theorem d_Mo_groupOf_230 : decode c_Mo_groupOf 230 = .ok (.iload_n 1, 1) := by decide +kernel
theorem d_Mo_groupOf_231 : decode c_Mo_groupOf 231 = .ok (.ifCond .ne 8, 3) := by decide +kernel
theorem d_Mo_groupOf_234 : decode c_Mo_groupOf 234 = .ok (.bipush 7, 2) := by decide +kernel
theorem d_Mo_groupOf_236 : decode c_Mo_groupOf 236 = .ok (.goto 24, 3) := by decide +kernel
theorem d_Mo_groupOf_239 : decode c_Mo_groupOf 239 = .ok (.iload_n 1, 1) := by decide +kernel
theorem d_Mo_groupOf_240 : decode c_Mo_groupOf 240 = .ok (.iconst 1, 1) := by decide +kernel
theorem d_Mo_groupOf_241 : decode c_Mo_groupOf 241 = .ok (.if_icmp .ne 8, 3) := by decide +kernel
theorem d_Mo_groupOf_244 : decode c_Mo_groupOf 244 = .ok (.bipush 8, 2) := by decide +kernel
theorem d_Mo_groupOf_246 : decode c_Mo_groupOf 246 = .ok (.goto 14, 3) := by decide +kernel
theorem d_Mo_groupOf_249 : decode c_Mo_groupOf 249 = .ok (.iload_n 1, 1) := by decide +kernel
theorem d_Mo_groupOf_250 : decode c_Mo_groupOf 250 = .ok (.iconst 2, 1) := by decide +kernel
theorem d_Mo_groupOf_251 : decode c_Mo_groupOf 251 = .ok (.if_icmp .ne 8, 3) := by decide +kernel
theorem d_Mo_groupOf_254 : decode c_Mo_groupOf 254 = .ok (.bipush 9, 2) := by decide +kernel
theorem d_Mo_groupOf_256 : decode c_Mo_groupOf 256 = .ok (.goto 4, 3) := by decide +kernel
theorem d_Mo_groupOf_259 : decode c_Mo_groupOf 259 = .ok (.iconst (-1), 1) := by decide +kernel
theorem d_Mo_groupOf_260 : decode c_Mo_groupOf 260 = .ok (.ireturn, 1) := by decide +kernel
theorem d_Mo_groupOf_261 : decode c_Mo_groupOf 261 = .ok (.iconst (-1), 1) := by decide +kernel
theorem d_Mo_groupOf_262 : decode c_Mo_groupOf 262 = .ok (.ireturn, 1) := by decide +kernel
theorem d_Mo_less_0 : decode c_Mo_less 0 = .ok (.iload_n 2, 1) := by decide +kernel
theorem d_Mo_less_1 : decode c_Mo_less 1 = .ok (.ifCond .eq 27, 3) := by decide +kernel
theorem d_Mo_less_4 : decode c_Mo_less 4 = .ok (.iload_n 0, 1) := by decide +kernel
theorem d_Mo_less_5 : decode c_Mo_less 5 = .ok (.i2l, 1) := by decide +kernel
theorem d_Mo_less_6 : decode c_Mo_less 6 = .ok (.ldc2_w 94, 3) := by decide +kernel
theorem d_Mo_less_9 : decode c_Mo_less 9 = .ok (.land, 1) := by decide +kernel
theorem d_Mo_less_10 : decode c_Mo_less 10 = .ok (.iload_n 1, 1) := by decide +kernel
theorem d_Mo_less_11 : decode c_Mo_less 11 = .ok (.i2l, 1) := by decide +kernel
theorem d_Mo_less_12 : decode c_Mo_less 12 = .ok (.ldc2_w 94, 3) := by decide +kernel
theorem d_Mo_less_15 : decode c_Mo_less 15 = .ok (.land, 1) := by decide +kernel
theorem d_Mo_less_16 : decode c_Mo_less 16 = .ok (.lcmp, 1) := by decide +kernel
theorem d_Mo_less_17 : decode c_Mo_less 17 = .ok (.ifCond .ge 7, 3) := by decide +kernel
theorem d_Mo_less_20 : decode c_Mo_less 20 = .ok (.iconst 1, 1) := by decide +kernel
theorem d_Mo_less_21 : decode c_Mo_less 21 = .ok (.goto 17, 3) := by decide +kernel
theorem d_Mo_less_24 : decode c_Mo_less 24 = .ok (.iconst 0, 1) := by decide +kernel
theorem d_Mo_less_25 : decode c_Mo_less 25 = .ok (.goto 13, 3) := by decide +kernel
theorem d_Mo_less_28 : decode c_Mo_less 28 = .ok (.iload_n 0, 1) := by decide +kernel
theorem d_Mo_less_29 : decode c_Mo_less 29 = .ok (.iload_n 1, 1) := by decide +kernel
theorem d_Mo_less_30 : decode c_Mo_less 30 = .ok (.if_icmp .ge 7, 3) := by decide +kernel
theorem d_Mo_less_33 : decode c_Mo_less 33 = .ok (.iconst 1, 1) := by decide +kernel
theorem d_Mo_less_34 : decode c_Mo_less 34 = .ok (.goto 4, 3) := by decide +kernel
theorem d_Mo_less_37 : decode c_Mo_less 37 = .ok (.iconst 0, 1) := by decide +kernel
theorem d_Mo_less_38 : decode c_Mo_less 38 = .ok (.ireturn, 1) := by decide +kernel
theorem d_Mo_made_0 : decode c_Mo_made 0 = .ok (.iload_n 0, 1) := by decide +kernel
theorem d_Mo_made_1 : decode c_Mo_made 1 = .ok (.tableswitch 128 0 6 #[43, 57, 64, 79, 94, 98, 124], 43) := by decide +kernel
theorem d_Mo_made_44 : decode c_Mo_made 44 = .ok (.iload_n 3, 1) := by decide +kernel
theorem d_Mo_made_45 : decode c_Mo_made 45 = .ok (.ifCond .eq 9, 3) := by decide +kernel
theorem d_Mo_made_48 : decode c_Mo_made 48 = .ok (.iload_n 1, 1) := by decide +kernel
theorem d_Mo_made_49 : decode c_Mo_made 49 = .ok (.iload_n 2, 1) := by decide +kernel
theorem d_Mo_made_50 : decode c_Mo_made 50 = .ok (.isub, 1) := by decide +kernel
theorem d_Mo_made_51 : decode c_Mo_made 51 = .ok (.goto 6, 3) := by decide +kernel
theorem d_Mo_made_54 : decode c_Mo_made 54 = .ok (.iload_n 1, 1) := by decide +kernel
theorem d_Mo_made_55 : decode c_Mo_made 55 = .ok (.iload_n 2, 1) := by decide +kernel
theorem d_Mo_made_56 : decode c_Mo_made 56 = .ok (.iadd, 1) := by decide +kernel
theorem d_Mo_made_57 : decode c_Mo_made 57 = .ok (.ireturn, 1) := by decide +kernel
theorem d_Mo_made_58 : decode c_Mo_made 58 = .ok (.iload_n 1, 1) := by decide +kernel
theorem d_Mo_made_59 : decode c_Mo_made 59 = .ok (.iload_n 2, 1) := by decide +kernel
theorem d_Mo_made_60 : decode c_Mo_made 60 = .ok (.bipush 31, 2) := by decide +kernel
theorem d_Mo_made_62 : decode c_Mo_made 62 = .ok (.iand, 1) := by decide +kernel
theorem d_Mo_made_63 : decode c_Mo_made 63 = .ok (.ishl, 1) := by decide +kernel
theorem d_Mo_made_64 : decode c_Mo_made 64 = .ok (.ireturn, 1) := by decide +kernel
theorem d_Mo_made_65 : decode c_Mo_made 65 = .ok (.iload_n 1, 1) := by decide +kernel
theorem d_Mo_made_66 : decode c_Mo_made 66 = .ok (.iload_n 2, 1) := by decide +kernel
theorem d_Mo_made_67 : decode c_Mo_made 67 = .ok (.iconst 0, 1) := by decide +kernel
theorem d_Mo_made_68 : decode c_Mo_made 68 = .ok (.invokestatic 96, 3) := by decide +kernel
theorem d_Mo_made_71 : decode c_Mo_made 71 = .ok (.ifCond .eq 7, 3) := by decide +kernel
theorem d_Mo_made_74 : decode c_Mo_made 74 = .ok (.iconst 1, 1) := by decide +kernel
theorem d_Mo_made_75 : decode c_Mo_made 75 = .ok (.goto 4, 3) := by decide +kernel
theorem d_Mo_made_78 : decode c_Mo_made 78 = .ok (.iconst 0, 1) := by decide +kernel
theorem d_Mo_made_79 : decode c_Mo_made 79 = .ok (.ireturn, 1) := by decide +kernel
theorem d_Mo_made_80 : decode c_Mo_made 80 = .ok (.iload_n 1, 1) := by decide +kernel
theorem d_Mo_made_81 : decode c_Mo_made 81 = .ok (.iload_n 2, 1) := by decide +kernel
theorem d_Mo_made_82 : decode c_Mo_made 82 = .ok (.iconst 1, 1) := by decide +kernel
theorem d_Mo_made_83 : decode c_Mo_made 83 = .ok (.invokestatic 96, 3) := by decide +kernel
theorem d_Mo_made_86 : decode c_Mo_made 86 = .ok (.ifCond .eq 7, 3) := by decide +kernel
theorem d_Mo_made_89 : decode c_Mo_made 89 = .ok (.iconst 1, 1) := by decide +kernel
theorem d_Mo_made_90 : decode c_Mo_made 90 = .ok (.goto 4, 3) := by decide +kernel
theorem d_Mo_made_93 : decode c_Mo_made 93 = .ok (.iconst 0, 1) := by decide +kernel
theorem d_Mo_made_94 : decode c_Mo_made 94 = .ok (.ireturn, 1) := by decide +kernel
theorem d_Mo_made_95 : decode c_Mo_made 95 = .ok (.iload_n 1, 1) := by decide +kernel
theorem d_Mo_made_96 : decode c_Mo_made 96 = .ok (.iload_n 2, 1) := by decide +kernel
theorem d_Mo_made_97 : decode c_Mo_made 97 = .ok (.ixor, 1) := by decide +kernel
theorem d_Mo_made_98 : decode c_Mo_made 98 = .ok (.ireturn, 1) := by decide +kernel
theorem d_Mo_made_99 : decode c_Mo_made 99 = .ok (.iload_n 3, 1) := by decide +kernel
theorem d_Mo_made_100 : decode c_Mo_made 100 = .ok (.ifCond .eq 12, 3) := by decide +kernel
theorem d_Mo_made_103 : decode c_Mo_made 103 = .ok (.iload_n 1, 1) := by decide +kernel
theorem d_Mo_made_104 : decode c_Mo_made 104 = .ok (.iload_n 2, 1) := by decide +kernel
theorem d_Mo_made_105 : decode c_Mo_made 105 = .ok (.bipush 31, 2) := by decide +kernel
theorem d_Mo_made_107 : decode c_Mo_made 107 = .ok (.iand, 1) := by decide +kernel
theorem d_Mo_made_108 : decode c_Mo_made 108 = .ok (.ishr, 1) := by decide +kernel
theorem d_Mo_made_109 : decode c_Mo_made 109 = .ok (.goto 15, 3) := by decide +kernel
theorem d_Mo_made_112 : decode c_Mo_made 112 = .ok (.iload_n 1, 1) := by decide +kernel
theorem d_Mo_made_113 : decode c_Mo_made 113 = .ok (.i2l, 1) := by decide +kernel
theorem d_Mo_made_114 : decode c_Mo_made 114 = .ok (.ldc2_w 94, 3) := by decide +kernel
theorem d_Mo_made_117 : decode c_Mo_made 117 = .ok (.land, 1) := by decide +kernel
theorem d_Mo_made_118 : decode c_Mo_made 118 = .ok (.iload_n 2, 1) := by decide +kernel
theorem d_Mo_made_119 : decode c_Mo_made 119 = .ok (.bipush 31, 2) := by decide +kernel
theorem d_Mo_made_121 : decode c_Mo_made 121 = .ok (.iand, 1) := by decide +kernel
theorem d_Mo_made_122 : decode c_Mo_made 122 = .ok (.lshr, 1) := by decide +kernel
theorem d_Mo_made_123 : decode c_Mo_made 123 = .ok (.l2i, 1) := by decide +kernel
theorem d_Mo_made_124 : decode c_Mo_made 124 = .ok (.ireturn, 1) := by decide +kernel
theorem d_Mo_made_125 : decode c_Mo_made 125 = .ok (.iload_n 1, 1) := by decide +kernel
theorem d_Mo_made_126 : decode c_Mo_made 126 = .ok (.iload_n 2, 1) := by decide +kernel
theorem d_Mo_made_127 : decode c_Mo_made 127 = .ok (.ior, 1) := by decide +kernel
theorem d_Mo_made_128 : decode c_Mo_made 128 = .ok (.ireturn, 1) := by decide +kernel
theorem d_Mo_made_129 : decode c_Mo_made 129 = .ok (.iload_n 1, 1) := by decide +kernel
theorem d_Mo_made_130 : decode c_Mo_made 130 = .ok (.iload_n 2, 1) := by decide +kernel
theorem d_Mo_made_131 : decode c_Mo_made 131 = .ok (.iand, 1) := by decide +kernel
theorem d_Mo_made_132 : decode c_Mo_made 132 = .ok (.ireturn, 1) := by decide +kernel
theorem d_Mo_work_0 : decode c_Mo_work 0 = .ok (.aload_n 0, 1) := by decide +kernel
theorem d_Mo_work_1 : decode c_Mo_work 1 = .ok (.getfield 20, 3) := by decide +kernel
theorem d_Mo_work_4 : decode c_Mo_work 4 = .ok (.iload_n 1, 1) := by decide +kernel
theorem d_Mo_work_5 : decode c_Mo_work 5 = .ok (.invokestatic 100, 3) := by decide +kernel
theorem d_Mo_work_8 : decode c_Mo_work 8 = .ok (.iaload, 1) := by decide +kernel
theorem d_Mo_work_9 : decode c_Mo_work 9 = .ok (.istore_n 2, 1) := by decide +kernel
theorem d_Mo_work_10 : decode c_Mo_work 10 = .ok (.iload_n 1, 1) := by decide +kernel
theorem d_Mo_work_11 : decode c_Mo_work 11 = .ok (.bipush 127, 2) := by decide +kernel
theorem d_Mo_work_13 : decode c_Mo_work 13 = .ok (.iand, 1) := by decide +kernel
theorem d_Mo_work_14 : decode c_Mo_work 14 = .ok (.lookupswitch 131 #[(19, 66), (51, 34), (55, 125)], 34) := by decide +kernel
theorem d_Mo_work_48 : decode c_Mo_work 48 = .ok (.iload_n 1, 1) := by decide +kernel
theorem d_Mo_work_49 : decode c_Mo_work 49 = .ok (.invokestatic 87, 3) := by decide +kernel
theorem d_Mo_work_52 : decode c_Mo_work 52 = .ok (.iload_n 2, 1) := by decide +kernel
theorem d_Mo_work_53 : decode c_Mo_work 53 = .ok (.aload_n 0, 1) := by decide +kernel
theorem d_Mo_work_54 : decode c_Mo_work 54 = .ok (.getfield 20, 3) := by decide +kernel
theorem d_Mo_work_57 : decode c_Mo_work 57 = .ok (.iload_n 1, 1) := by decide +kernel
theorem d_Mo_work_58 : decode c_Mo_work 58 = .ok (.invokestatic 103, 3) := by decide +kernel
theorem d_Mo_work_61 : decode c_Mo_work 61 = .ok (.iaload, 1) := by decide +kernel
theorem d_Mo_work_62 : decode c_Mo_work 62 = .ok (.iload_n 1, 1) := by decide +kernel
theorem d_Mo_work_63 : decode c_Mo_work 63 = .ok (.invokestatic 91, 3) := by decide +kernel
theorem d_Mo_work_66 : decode c_Mo_work 66 = .ok (.bipush 32, 2) := by decide +kernel
theorem d_Mo_work_68 : decode c_Mo_work 68 = .ok (.if_icmp .ne 7, 3) := by decide +kernel
theorem d_Mo_work_71 : decode c_Mo_work 71 = .ok (.iconst 1, 1) := by decide +kernel
theorem d_Mo_work_72 : decode c_Mo_work 72 = .ok (.goto 4, 3) := by decide +kernel
theorem d_Mo_work_75 : decode c_Mo_work 75 = .ok (.iconst 0, 1) := by decide +kernel
theorem d_Mo_work_76 : decode c_Mo_work 76 = .ok (.invokestatic 106, 3) := by decide +kernel
theorem d_Mo_work_79 : decode c_Mo_work 79 = .ok (.ireturn, 1) := by decide +kernel
theorem d_Mo_work_80 : decode c_Mo_work 80 = .ok (.iload_n 1, 1) := by decide +kernel
theorem d_Mo_work_81 : decode c_Mo_work 81 = .ok (.invokestatic 87, 3) := by decide +kernel
theorem d_Mo_work_84 : decode c_Mo_work 84 = .ok (.iconst 1, 1) := by decide +kernel
theorem d_Mo_work_85 : decode c_Mo_work 85 = .ok (.if_icmp .eq 11, 3) := by decide +kernel
theorem d_Mo_work_88 : decode c_Mo_work 88 = .ok (.iload_n 1, 1) := by decide +kernel
theorem d_Mo_work_89 : decode c_Mo_work 89 = .ok (.invokestatic 87, 3) := by decide +kernel
theorem d_Mo_work_92 : decode c_Mo_work 92 = .ok (.iconst 5, 1) := by decide +kernel
theorem d_Mo_work_93 : decode c_Mo_work 93 = .ok (.if_icmp .ne 32, 3) := by decide +kernel
theorem d_Mo_work_96 : decode c_Mo_work 96 = .ok (.iload_n 1, 1) := by decide +kernel
theorem d_Mo_work_97 : decode c_Mo_work 97 = .ok (.invokestatic 87, 3) := by decide +kernel
theorem d_Mo_work_100 : decode c_Mo_work 100 = .ok (.iload_n 2, 1) := by decide +kernel
theorem d_Mo_work_101 : decode c_Mo_work 101 = .ok (.iload_n 1, 1) := by decide +kernel
theorem d_Mo_work_102 : decode c_Mo_work 102 = .ok (.invokestatic 103, 3) := by decide +kernel
theorem d_Mo_work_105 : decode c_Mo_work 105 = .ok (.iload_n 1, 1) := by decide +kernel
theorem d_Mo_work_106 : decode c_Mo_work 106 = .ok (.invokestatic 91, 3) := by decide +kernel
theorem d_Mo_work_109 : decode c_Mo_work 109 = .ok (.bipush 32, 2) := by decide +kernel
theorem d_Mo_work_111 : decode c_Mo_work 111 = .ok (.if_icmp .ne 7, 3) := by decide +kernel
theorem d_Mo_work_114 : decode c_Mo_work 114 = .ok (.iconst 1, 1) := by decide +kernel
theorem d_Mo_work_115 : decode c_Mo_work 115 = .ok (.goto 4, 3) := by decide +kernel
theorem d_Mo_work_118 : decode c_Mo_work 118 = .ok (.iconst 0, 1) := by decide +kernel
theorem d_Mo_work_119 : decode c_Mo_work 119 = .ok (.invokestatic 106, 3) := by decide +kernel
theorem d_Mo_work_122 : decode c_Mo_work 122 = .ok (.goto 16, 3) := by decide +kernel
theorem d_Mo_work_125 : decode c_Mo_work 125 = .ok (.iload_n 1, 1) := by decide +kernel
theorem d_Mo_work_126 : decode c_Mo_work 126 = .ok (.invokestatic 87, 3) := by decide +kernel
theorem d_Mo_work_129 : decode c_Mo_work 129 = .ok (.iload_n 2, 1) := by decide +kernel
theorem d_Mo_work_130 : decode c_Mo_work 130 = .ok (.iload_n 1, 1) := by decide +kernel
theorem d_Mo_work_131 : decode c_Mo_work 131 = .ok (.bipush 20, 2) := by decide +kernel
theorem d_Mo_work_133 : decode c_Mo_work 133 = .ok (.ishr, 1) := by decide +kernel
theorem d_Mo_work_134 : decode c_Mo_work 134 = .ok (.iconst 0, 1) := by decide +kernel
theorem d_Mo_work_135 : decode c_Mo_work 135 = .ok (.invokestatic 106, 3) := by decide +kernel
theorem d_Mo_work_138 : decode c_Mo_work 138 = .ok (.ireturn, 1) := by decide +kernel
theorem d_Mo_work_139 : decode c_Mo_work 139 = .ok (.iload_n 1, 1) := by decide +kernel
theorem d_Mo_work_140 : decode c_Mo_work 140 = .ok (.sipush (-4096), 3) := by decide +kernel
theorem d_Mo_work_143 : decode c_Mo_work 143 = .ok (.iand, 1) := by decide +kernel
theorem d_Mo_work_144 : decode c_Mo_work 144 = .ok (.ireturn, 1) := by decide +kernel
theorem d_Mo_work_145 : decode c_Mo_work 145 = .ok (.iload_n 1, 1) := by decide +kernel
theorem d_Mo_work_146 : decode c_Mo_work 146 = .ok (.sipush (-4096), 3) := by decide +kernel
theorem d_Mo_work_149 : decode c_Mo_work 149 = .ok (.iand, 1) := by decide +kernel
theorem d_Mo_work_150 : decode c_Mo_work 150 = .ok (.aload_n 0, 1) := by decide +kernel
theorem d_Mo_work_151 : decode c_Mo_work 151 = .ok (.getfield 62, 3) := by decide +kernel
theorem d_Mo_work_154 : decode c_Mo_work 154 = .ok (.iadd, 1) := by decide +kernel
theorem d_Mo_work_155 : decode c_Mo_work 155 = .ok (.ireturn, 1) := by decide +kernel
theorem d_Mo_address_0 : decode c_Mo_address 0 = .ok (.iload_n 1, 1) := by decide +kernel
theorem d_Mo_address_1 : decode c_Mo_address 1 = .ok (.bipush 127, 2) := by decide +kernel
theorem d_Mo_address_3 : decode c_Mo_address 3 = .ok (.iand, 1) := by decide +kernel
theorem d_Mo_address_4 : decode c_Mo_address 4 = .ok (.iconst 3, 1) := by decide +kernel
theorem d_Mo_address_5 : decode c_Mo_address 5 = .ok (.if_icmp .ne 10, 3) := by decide +kernel
theorem d_Mo_address_8 : decode c_Mo_address 8 = .ok (.iload_n 1, 1) := by decide +kernel
theorem d_Mo_address_9 : decode c_Mo_address 9 = .ok (.bipush 20, 2) := by decide +kernel
theorem d_Mo_address_11 : decode c_Mo_address 11 = .ok (.ishr, 1) := by decide +kernel
theorem d_Mo_address_12 : decode c_Mo_address 12 = .ok (.goto 14, 3) := by decide +kernel
theorem d_Mo_address_15 : decode c_Mo_address 15 = .ok (.iload_n 1, 1) := by decide +kernel
theorem d_Mo_address_16 : decode c_Mo_address 16 = .ok (.bipush 25, 2) := by decide +kernel
theorem d_Mo_address_18 : decode c_Mo_address 18 = .ok (.ishr, 1) := by decide +kernel
theorem d_Mo_address_19 : decode c_Mo_address 19 = .ok (.iconst 5, 1) := by decide +kernel
theorem d_Mo_address_20 : decode c_Mo_address 20 = .ok (.ishl, 1) := by decide +kernel
theorem d_Mo_address_21 : decode c_Mo_address 21 = .ok (.iload_n 1, 1) := by decide +kernel
theorem d_Mo_address_22 : decode c_Mo_address 22 = .ok (.invokestatic 110, 3) := by decide +kernel
theorem d_Mo_address_25 : decode c_Mo_address 25 = .ok (.ior, 1) := by decide +kernel
theorem d_Mo_address_26 : decode c_Mo_address 26 = .ok (.istore_n 2, 1) := by decide +kernel
theorem d_Mo_address_27 : decode c_Mo_address 27 = .ok (.aload_n 0, 1) := by decide +kernel
theorem d_Mo_address_28 : decode c_Mo_address 28 = .ok (.getfield 20, 3) := by decide +kernel
theorem d_Mo_address_31 : decode c_Mo_address 31 = .ok (.iload_n 1, 1) := by decide +kernel
theorem d_Mo_address_32 : decode c_Mo_address 32 = .ok (.invokestatic 100, 3) := by decide +kernel
theorem d_Mo_address_35 : decode c_Mo_address 35 = .ok (.iaload, 1) := by decide +kernel
theorem d_Mo_address_36 : decode c_Mo_address 36 = .ok (.iload_n 2, 1) := by decide +kernel
theorem d_Mo_address_37 : decode c_Mo_address 37 = .ok (.iadd, 1) := by decide +kernel
theorem d_Mo_address_38 : decode c_Mo_address 38 = .ok (.ireturn, 1) := by decide +kernel
theorem d_Mo_isMemory_0 : decode c_Mo_isMemory 0 = .ok (.iload_n 0, 1) := by decide +kernel
theorem d_Mo_isMemory_1 : decode c_Mo_isMemory 1 = .ok (.ifCond .le 12, 3) := by decide +kernel
theorem d_Mo_isMemory_4 : decode c_Mo_isMemory 4 = .ok (.iload_n 0, 1) := by decide +kernel
theorem d_Mo_isMemory_5 : decode c_Mo_isMemory 5 = .ok (.iconst 4, 1) := by decide +kernel
theorem d_Mo_isMemory_6 : decode c_Mo_isMemory 6 = .ok (.if_icmp .ge 7, 3) := by decide +kernel
theorem d_Mo_isMemory_9 : decode c_Mo_isMemory 9 = .ok (.iconst 1, 1) := by decide +kernel
theorem d_Mo_isMemory_10 : decode c_Mo_isMemory 10 = .ok (.goto 4, 3) := by decide +kernel
theorem d_Mo_isMemory_13 : decode c_Mo_isMemory 13 = .ok (.iconst 0, 1) := by decide +kernel
theorem d_Mo_isMemory_14 : decode c_Mo_isMemory 14 = .ok (.ireturn, 1) := by decide +kernel
theorem d_Mo_isWrong_0 : decode c_Mo_isWrong 0 = .ok (.aload_n 0, 1) := by decide +kernel
theorem d_Mo_isWrong_1 : decode c_Mo_isWrong 1 = .ok (.iload_n 1, 1) := by decide +kernel
theorem d_Mo_isWrong_2 : decode c_Mo_isWrong 2 = .ok (.invokevirtual 113, 3) := by decide +kernel
theorem d_Mo_isWrong_5 : decode c_Mo_isWrong 5 = .ok (.istore_n 3, 1) := by decide +kernel
theorem d_Mo_isWrong_6 : decode c_Mo_isWrong 6 = .ok (.iload_n 2, 1) := by decide +kernel
theorem d_Mo_isWrong_7 : decode c_Mo_isWrong 7 = .ok (.iconst 2, 1) := by decide +kernel
theorem d_Mo_isWrong_8 : decode c_Mo_isWrong 8 = .ok (.if_icmp .eq 16, 3) := by decide +kernel
theorem d_Mo_isWrong_11 : decode c_Mo_isWrong 11 = .ok (.iload_n 2, 1) := by decide +kernel
theorem d_Mo_isWrong_12 : decode c_Mo_isWrong 12 = .ok (.iconst 1, 1) := by decide +kernel
theorem d_Mo_isWrong_13 : decode c_Mo_isWrong 13 = .ok (.if_icmp .ne 15, 3) := by decide +kernel
theorem d_Mo_isWrong_16 : decode c_Mo_isWrong 16 = .ok (.iload_n 1, 1) := by decide +kernel
theorem d_Mo_isWrong_17 : decode c_Mo_isWrong 17 = .ok (.invokestatic 87, 3) := by decide +kernel
theorem d_Mo_isWrong_20 : decode c_Mo_isWrong 20 = .ok (.iconst 2, 1) := by decide +kernel
theorem d_Mo_isWrong_21 : decode c_Mo_isWrong 21 = .ok (.if_icmp .ne 7, 3) := by decide +kernel
theorem d_Mo_isWrong_24 : decode c_Mo_isWrong 24 = .ok (.iconst 1, 1) := by decide +kernel
theorem d_Mo_isWrong_25 : decode c_Mo_isWrong 25 = .ok (.goto 4, 3) := by decide +kernel
theorem d_Mo_isWrong_28 : decode c_Mo_isWrong 28 = .ok (.iconst 0, 1) := by decide +kernel
theorem d_Mo_isWrong_29 : decode c_Mo_isWrong 29 = .ok (.istore 4, 2) := by decide +kernel
theorem d_Mo_isWrong_31 : decode c_Mo_isWrong 31 = .ok (.iload_n 3, 1) := by decide +kernel
theorem d_Mo_isWrong_32 : decode c_Mo_isWrong 32 = .ok (.sipush 4096, 3) := by decide +kernel
theorem d_Mo_isWrong_35 : decode c_Mo_isWrong 35 = .ok (.if_icmp .lt 21, 3) := by decide +kernel
theorem d_Mo_isWrong_38 : decode c_Mo_isWrong 38 = .ok (.iload_n 3, 1) := by decide +kernel
theorem d_Mo_isWrong_39 : decode c_Mo_isWrong 39 = .ok (.sipush 4351, 3) := by decide +kernel
theorem d_Mo_isWrong_42 : decode c_Mo_isWrong 42 = .ok (.if_icmp .gt 14, 3) := by decide +kernel
theorem d_Mo_isWrong_45 : decode c_Mo_isWrong 45 = .ok (.iload 4, 2) := by decide +kernel
theorem d_Mo_isWrong_47 : decode c_Mo_isWrong 47 = .ok (.ifCond .eq 13, 3) := by decide +kernel
theorem d_Mo_isWrong_50 : decode c_Mo_isWrong 50 = .ok (.iload_n 3, 1) := by decide +kernel
theorem d_Mo_isWrong_51 : decode c_Mo_isWrong 51 = .ok (.iconst 4, 1) := by decide +kernel
theorem d_Mo_isWrong_52 : decode c_Mo_isWrong 52 = .ok (.irem, 1) := by decide +kernel
theorem d_Mo_isWrong_53 : decode c_Mo_isWrong 53 = .ok (.ifCond .eq 7, 3) := by decide +kernel
theorem d_Mo_isWrong_56 : decode c_Mo_isWrong 56 = .ok (.iconst 1, 1) := by decide +kernel
theorem d_Mo_isWrong_57 : decode c_Mo_isWrong 57 = .ok (.goto 4, 3) := by decide +kernel
theorem d_Mo_isWrong_60 : decode c_Mo_isWrong 60 = .ok (.iconst 0, 1) := by decide +kernel
theorem d_Mo_isWrong_61 : decode c_Mo_isWrong 61 = .ok (.ireturn, 1) := by decide +kernel
theorem d_Mo_branchOffset_0 : decode c_Mo_branchOffset 0 = .ok (.iload_n 0, 1) := by decide +kernel
theorem d_Mo_branchOffset_1 : decode c_Mo_branchOffset 1 = .ok (.bipush 31, 2) := by decide +kernel
theorem d_Mo_branchOffset_3 : decode c_Mo_branchOffset 3 = .ok (.ishr, 1) := by decide +kernel
theorem d_Mo_branchOffset_4 : decode c_Mo_branchOffset 4 = .ok (.bipush 12, 2) := by decide +kernel
theorem d_Mo_branchOffset_6 : decode c_Mo_branchOffset 6 = .ok (.ishl, 1) := by decide +kernel
theorem d_Mo_branchOffset_7 : decode c_Mo_branchOffset 7 = .ok (.iload_n 0, 1) := by decide +kernel
theorem d_Mo_branchOffset_8 : decode c_Mo_branchOffset 8 = .ok (.bipush 7, 2) := by decide +kernel
theorem d_Mo_branchOffset_10 : decode c_Mo_branchOffset 10 = .ok (.ishr, 1) := by decide +kernel
theorem d_Mo_branchOffset_11 : decode c_Mo_branchOffset 11 = .ok (.iconst 1, 1) := by decide +kernel
theorem d_Mo_branchOffset_12 : decode c_Mo_branchOffset 12 = .ok (.iand, 1) := by decide +kernel
theorem d_Mo_branchOffset_13 : decode c_Mo_branchOffset 13 = .ok (.bipush 11, 2) := by decide +kernel
theorem d_Mo_branchOffset_15 : decode c_Mo_branchOffset 15 = .ok (.ishl, 1) := by decide +kernel
theorem d_Mo_branchOffset_16 : decode c_Mo_branchOffset 16 = .ok (.ior, 1) := by decide +kernel
theorem d_Mo_branchOffset_17 : decode c_Mo_branchOffset 17 = .ok (.iload_n 0, 1) := by decide +kernel
theorem d_Mo_branchOffset_18 : decode c_Mo_branchOffset 18 = .ok (.bipush 25, 2) := by decide +kernel
theorem d_Mo_branchOffset_20 : decode c_Mo_branchOffset 20 = .ok (.ishr, 1) := by decide +kernel
theorem d_Mo_branchOffset_21 : decode c_Mo_branchOffset 21 = .ok (.bipush 63, 2) := by decide +kernel
theorem d_Mo_branchOffset_23 : decode c_Mo_branchOffset 23 = .ok (.iand, 1) := by decide +kernel
theorem d_Mo_branchOffset_24 : decode c_Mo_branchOffset 24 = .ok (.iconst 5, 1) := by decide +kernel
theorem d_Mo_branchOffset_25 : decode c_Mo_branchOffset 25 = .ok (.ishl, 1) := by decide +kernel
theorem d_Mo_branchOffset_26 : decode c_Mo_branchOffset 26 = .ok (.ior, 1) := by decide +kernel
theorem d_Mo_branchOffset_27 : decode c_Mo_branchOffset 27 = .ok (.iload_n 0, 1) := by decide +kernel
theorem d_Mo_branchOffset_28 : decode c_Mo_branchOffset 28 = .ok (.bipush 8, 2) := by decide +kernel
theorem d_Mo_branchOffset_30 : decode c_Mo_branchOffset 30 = .ok (.ishr, 1) := by decide +kernel
theorem d_Mo_branchOffset_31 : decode c_Mo_branchOffset 31 = .ok (.bipush 15, 2) := by decide +kernel
theorem d_Mo_branchOffset_33 : decode c_Mo_branchOffset 33 = .ok (.iand, 1) := by decide +kernel
theorem d_Mo_branchOffset_34 : decode c_Mo_branchOffset 34 = .ok (.iconst 1, 1) := by decide +kernel
theorem d_Mo_branchOffset_35 : decode c_Mo_branchOffset 35 = .ok (.ishl, 1) := by decide +kernel
theorem d_Mo_branchOffset_36 : decode c_Mo_branchOffset 36 = .ok (.ior, 1) := by decide +kernel
theorem d_Mo_branchOffset_37 : decode c_Mo_branchOffset 37 = .ok (.ireturn, 1) := by decide +kernel
theorem d_Mo_callOffset_0 : decode c_Mo_callOffset 0 = .ok (.iload_n 0, 1) := by decide +kernel
theorem d_Mo_callOffset_1 : decode c_Mo_callOffset 1 = .ok (.bipush 31, 2) := by decide +kernel
theorem d_Mo_callOffset_3 : decode c_Mo_callOffset 3 = .ok (.ishr, 1) := by decide +kernel
theorem d_Mo_callOffset_4 : decode c_Mo_callOffset 4 = .ok (.bipush 20, 2) := by decide +kernel
theorem d_Mo_callOffset_6 : decode c_Mo_callOffset 6 = .ok (.ishl, 1) := by decide +kernel
theorem d_Mo_callOffset_7 : decode c_Mo_callOffset 7 = .ok (.iload_n 0, 1) := by decide +kernel
theorem d_Mo_callOffset_8 : decode c_Mo_callOffset 8 = .ok (.bipush 12, 2) := by decide +kernel
theorem d_Mo_callOffset_10 : decode c_Mo_callOffset 10 = .ok (.ishr, 1) := by decide +kernel
theorem d_Mo_callOffset_11 : decode c_Mo_callOffset 11 = .ok (.sipush 255, 3) := by decide +kernel
theorem d_Mo_callOffset_14 : decode c_Mo_callOffset 14 = .ok (.iand, 1) := by decide +kernel
theorem d_Mo_callOffset_15 : decode c_Mo_callOffset 15 = .ok (.bipush 12, 2) := by decide +kernel
theorem d_Mo_callOffset_17 : decode c_Mo_callOffset 17 = .ok (.ishl, 1) := by decide +kernel
theorem d_Mo_callOffset_18 : decode c_Mo_callOffset 18 = .ok (.ior, 1) := by decide +kernel
theorem d_Mo_callOffset_19 : decode c_Mo_callOffset 19 = .ok (.iload_n 0, 1) := by decide +kernel
theorem d_Mo_callOffset_20 : decode c_Mo_callOffset 20 = .ok (.bipush 20, 2) := by decide +kernel
theorem d_Mo_callOffset_22 : decode c_Mo_callOffset 22 = .ok (.ishr, 1) := by decide +kernel
theorem d_Mo_callOffset_23 : decode c_Mo_callOffset 23 = .ok (.iconst 1, 1) := by decide +kernel
theorem d_Mo_callOffset_24 : decode c_Mo_callOffset 24 = .ok (.iand, 1) := by decide +kernel
theorem d_Mo_callOffset_25 : decode c_Mo_callOffset 25 = .ok (.bipush 11, 2) := by decide +kernel
theorem d_Mo_callOffset_27 : decode c_Mo_callOffset 27 = .ok (.ishl, 1) := by decide +kernel
theorem d_Mo_callOffset_28 : decode c_Mo_callOffset 28 = .ok (.ior, 1) := by decide +kernel
theorem d_Mo_callOffset_29 : decode c_Mo_callOffset 29 = .ok (.iload_n 0, 1) := by decide +kernel
theorem d_Mo_callOffset_30 : decode c_Mo_callOffset 30 = .ok (.bipush 21, 2) := by decide +kernel
theorem d_Mo_callOffset_32 : decode c_Mo_callOffset 32 = .ok (.ishr, 1) := by decide +kernel
theorem d_Mo_callOffset_33 : decode c_Mo_callOffset 33 = .ok (.sipush 1023, 3) := by decide +kernel
theorem d_Mo_callOffset_36 : decode c_Mo_callOffset 36 = .ok (.iand, 1) := by decide +kernel
theorem d_Mo_callOffset_37 : decode c_Mo_callOffset 37 = .ok (.iconst 1, 1) := by decide +kernel
theorem d_Mo_callOffset_38 : decode c_Mo_callOffset 38 = .ok (.ishl, 1) := by decide +kernel
theorem d_Mo_callOffset_39 : decode c_Mo_callOffset 39 = .ok (.ior, 1) := by decide +kernel
theorem d_Mo_callOffset_40 : decode c_Mo_callOffset 40 = .ok (.ireturn, 1) := by decide +kernel
theorem d_Mo_holds_0 : decode c_Mo_holds 0 = .ok (.aload_n 0, 1) := by decide +kernel
theorem d_Mo_holds_1 : decode c_Mo_holds 1 = .ok (.getfield 20, 3) := by decide +kernel
theorem d_Mo_holds_4 : decode c_Mo_holds 4 = .ok (.iload_n 1, 1) := by decide +kernel
theorem d_Mo_holds_5 : decode c_Mo_holds 5 = .ok (.invokestatic 100, 3) := by decide +kernel
theorem d_Mo_holds_8 : decode c_Mo_holds 8 = .ok (.iaload, 1) := by decide +kernel
theorem d_Mo_holds_9 : decode c_Mo_holds 9 = .ok (.istore_n 2, 1) := by decide +kernel
theorem d_Mo_holds_10 : decode c_Mo_holds 10 = .ok (.aload_n 0, 1) := by decide +kernel
theorem d_Mo_holds_11 : decode c_Mo_holds 11 = .ok (.getfield 20, 3) := by decide +kernel
theorem d_Mo_holds_14 : decode c_Mo_holds 14 = .ok (.iload_n 1, 1) := by decide +kernel
theorem d_Mo_holds_15 : decode c_Mo_holds 15 = .ok (.invokestatic 103, 3) := by decide +kernel
theorem d_Mo_holds_18 : decode c_Mo_holds 18 = .ok (.iaload, 1) := by decide +kernel
theorem d_Mo_holds_19 : decode c_Mo_holds 19 = .ok (.istore_n 3, 1) := by decide +kernel
theorem d_Mo_holds_20 : decode c_Mo_holds 20 = .ok (.iload_n 1, 1) := by decide +kernel
theorem d_Mo_holds_21 : decode c_Mo_holds 21 = .ok (.invokestatic 87, 3) := by decide +kernel
theorem d_Mo_holds_24 : decode c_Mo_holds 24 = .ok (.iconst 2, 1) := by decide +kernel
theorem d_Mo_holds_25 : decode c_Mo_holds 25 = .ok (.if_icmp .ge 16, 3) := by decide +kernel
theorem d_Mo_holds_28 : decode c_Mo_holds 28 = .ok (.iload_n 2, 1) := by decide +kernel
theorem d_Mo_holds_29 : decode c_Mo_holds 29 = .ok (.iload_n 3, 1) := by decide +kernel
theorem d_Mo_holds_30 : decode c_Mo_holds 30 = .ok (.if_icmp .ne 7, 3) := by decide +kernel
theorem d_Mo_holds_33 : decode c_Mo_holds 33 = .ok (.iconst 1, 1) := by decide +kernel
theorem d_Mo_holds_34 : decode c_Mo_holds 34 = .ok (.goto 25, 3) := by decide +kernel
theorem d_Mo_holds_37 : decode c_Mo_holds 37 = .ok (.iconst 0, 1) := by decide +kernel
theorem d_Mo_holds_38 : decode c_Mo_holds 38 = .ok (.goto 21, 3) := by decide +kernel
theorem d_Mo_holds_41 : decode c_Mo_holds 41 = .ok (.iload_n 2, 1) := by decide +kernel
theorem d_Mo_holds_42 : decode c_Mo_holds 42 = .ok (.iload_n 3, 1) := by decide +kernel
theorem d_Mo_holds_43 : decode c_Mo_holds 43 = .ok (.iload_n 1, 1) := by decide +kernel
theorem d_Mo_holds_44 : decode c_Mo_holds 44 = .ok (.invokestatic 87, 3) := by decide +kernel
theorem d_Mo_holds_47 : decode c_Mo_holds 47 = .ok (.iconst 5, 1) := by decide +kernel
theorem d_Mo_holds_48 : decode c_Mo_holds 48 = .ok (.if_icmp .le 7, 3) := by decide +kernel
theorem d_Mo_holds_51 : decode c_Mo_holds 51 = .ok (.iconst 1, 1) := by decide +kernel
theorem d_Mo_holds_52 : decode c_Mo_holds 52 = .ok (.goto 4, 3) := by decide +kernel
theorem d_Mo_holds_55 : decode c_Mo_holds 55 = .ok (.iconst 0, 1) := by decide +kernel
theorem d_Mo_holds_56 : decode c_Mo_holds 56 = .ok (.invokestatic 96, 3) := by decide +kernel
theorem d_Mo_holds_59 : decode c_Mo_holds 59 = .ok (.istore 4, 2) := by decide +kernel
theorem d_Mo_holds_61 : decode c_Mo_holds 61 = .ok (.iload_n 1, 1) := by decide +kernel
theorem d_Mo_holds_62 : decode c_Mo_holds 62 = .ok (.invokestatic 87, 3) := by decide +kernel
theorem d_Mo_holds_65 : decode c_Mo_holds 65 = .ok (.iconst 2, 1) := by decide +kernel
theorem d_Mo_holds_66 : decode c_Mo_holds 66 = .ok (.irem, 1) := by decide +kernel
theorem d_Mo_holds_67 : decode c_Mo_holds 67 = .ok (.ifCond .ne 8, 3) := by decide +kernel
theorem d_Mo_holds_70 : decode c_Mo_holds 70 = .ok (.iload 4, 2) := by decide +kernel
theorem d_Mo_holds_72 : decode c_Mo_holds 72 = .ok (.goto 13, 3) := by decide +kernel
theorem d_Mo_holds_75 : decode c_Mo_holds 75 = .ok (.iload 4, 2) := by decide +kernel
theorem d_Mo_holds_77 : decode c_Mo_holds 77 = .ok (.ifCond .ne 7, 3) := by decide +kernel
theorem d_Mo_holds_80 : decode c_Mo_holds 80 = .ok (.iconst 1, 1) := by decide +kernel
theorem d_Mo_holds_81 : decode c_Mo_holds 81 = .ok (.goto 4, 3) := by decide +kernel
theorem d_Mo_holds_84 : decode c_Mo_holds 84 = .ok (.iconst 0, 1) := by decide +kernel
theorem d_Mo_holds_85 : decode c_Mo_holds 85 = .ok (.ireturn, 1) := by decide +kernel
theorem d_Mo_join_0 : decode c_Mo_join 0 = .ok (.iconst 0, 1) := by decide +kernel
theorem d_Mo_join_1 : decode c_Mo_join 1 = .ok (.istore_n 2, 1) := by decide +kernel
theorem d_Mo_join_2 : decode c_Mo_join 2 = .ok (.iconst 0, 1) := by decide +kernel
theorem d_Mo_join_3 : decode c_Mo_join 3 = .ok (.istore_n 3, 1) := by decide +kernel
theorem d_Mo_join_4 : decode c_Mo_join 4 = .ok (.iload_n 3, 1) := by decide +kernel
theorem d_Mo_join_5 : decode c_Mo_join 5 = .ok (.iconst 4, 1) := by decide +kernel
theorem d_Mo_join_6 : decode c_Mo_join 6 = .ok (.if_icmp .ge 31, 3) := by decide +kernel
theorem d_Mo_join_9 : decode c_Mo_join 9 = .ok (.iload_n 1, 1) := by decide +kernel
theorem d_Mo_join_10 : decode c_Mo_join 10 = .ok (.iload_n 3, 1) := by decide +kernel
theorem d_Mo_join_11 : decode c_Mo_join 11 = .ok (.ishr, 1) := by decide +kernel
theorem d_Mo_join_12 : decode c_Mo_join 12 = .ok (.iconst 1, 1) := by decide +kernel
theorem d_Mo_join_13 : decode c_Mo_join 13 = .ok (.iand, 1) := by decide +kernel
theorem d_Mo_join_14 : decode c_Mo_join 14 = .ok (.iconst 1, 1) := by decide +kernel
theorem d_Mo_join_15 : decode c_Mo_join 15 = .ok (.if_icmp .ne 14, 3) := by decide +kernel
theorem d_Mo_join_18 : decode c_Mo_join 18 = .ok (.iload_n 2, 1) := by decide +kernel
theorem d_Mo_join_19 : decode c_Mo_join 19 = .ok (.aload_n 0, 1) := by decide +kernel
theorem d_Mo_join_20 : decode c_Mo_join 20 = .ok (.getfield 47, 3) := by decide +kernel
theorem d_Mo_join_23 : decode c_Mo_join 23 = .ok (.iload_n 3, 1) := by decide +kernel
theorem d_Mo_join_24 : decode c_Mo_join 24 = .ok (.iaload, 1) := by decide +kernel
theorem d_Mo_join_25 : decode c_Mo_join 25 = .ok (.ior, 1) := by decide +kernel
theorem d_Mo_join_26 : decode c_Mo_join 26 = .ok (.goto 4, 3) := by decide +kernel
theorem d_Mo_join_29 : decode c_Mo_join 29 = .ok (.iload_n 2, 1) := by decide +kernel
theorem d_Mo_join_30 : decode c_Mo_join 30 = .ok (.istore_n 2, 1) := by decide +kernel
theorem d_Mo_join_31 : decode c_Mo_join 31 = .ok (.iinc 3 1, 3) := by decide +kernel
theorem d_Mo_join_34 : decode c_Mo_join 34 = .ok (.goto (-30), 3) := by decide +kernel
theorem d_Mo_join_37 : decode c_Mo_join 37 = .ok (.iload_n 2, 1) := by decide +kernel
theorem d_Mo_join_38 : decode c_Mo_join 38 = .ok (.ireturn, 1) := by decide +kernel
theorem d_Mo_takeLabels_0 : decode c_Mo_takeLabels 0 = .ok (.iload_n 1, 1) := by decide +kernel
theorem d_Mo_takeLabels_1 : decode c_Mo_takeLabels 1 = .ok (.bipush 127, 2) := by decide +kernel
theorem d_Mo_takeLabels_3 : decode c_Mo_takeLabels 3 = .ok (.iand, 1) := by decide +kernel
theorem d_Mo_takeLabels_4 : decode c_Mo_takeLabels 4 = .ok (.istore_n 2, 1) := by decide +kernel
theorem d_Mo_takeLabels_5 : decode c_Mo_takeLabels 5 = .ok (.iload_n 2, 1) := by decide +kernel
theorem d_Mo_takeLabels_6 : decode c_Mo_takeLabels 6 = .ok (.bipush 51, 2) := by decide +kernel
theorem d_Mo_takeLabels_8 : decode c_Mo_takeLabels 8 = .ok (.if_icmp .eq 45, 3) := by decide +kernel
theorem d_Mo_takeLabels_11 : decode c_Mo_takeLabels 11 = .ok (.iload_n 2, 1) := by decide +kernel
theorem d_Mo_takeLabels_12 : decode c_Mo_takeLabels 12 = .ok (.bipush 19, 2) := by decide +kernel
theorem d_Mo_takeLabels_14 : decode c_Mo_takeLabels 14 = .ok (.if_icmp .eq 39, 3) := by decide +kernel
theorem d_Mo_takeLabels_17 : decode c_Mo_takeLabels 17 = .ok (.aload_n 0, 1) := by decide +kernel
theorem d_Mo_takeLabels_18 : decode c_Mo_takeLabels 18 = .ok (.getfield 116, 3) := by decide +kernel
theorem d_Mo_takeLabels_21 : decode c_Mo_takeLabels 21 = .ok (.invokestatic 119, 3) := by decide +kernel
theorem d_Mo_takeLabels_24 : decode c_Mo_takeLabels 24 = .ok (.ifCond .ne 29, 3) := by decide +kernel
theorem d_Mo_takeLabels_27 : decode c_Mo_takeLabels 27 = .ok (.aload_n 0, 1) := by decide +kernel
theorem d_Mo_takeLabels_28 : decode c_Mo_takeLabels 28 = .ok (.getfield 116, 3) := by decide +kernel
theorem d_Mo_takeLabels_31 : decode c_Mo_takeLabels 31 = .ok (.iconst 4, 1) := by decide +kernel
theorem d_Mo_takeLabels_32 : decode c_Mo_takeLabels 32 = .ok (.if_icmp .eq 21, 3) := by decide +kernel
theorem d_Mo_takeLabels_35 : decode c_Mo_takeLabels 35 = .ok (.aload_n 0, 1) := by decide +kernel
theorem d_Mo_takeLabels_36 : decode c_Mo_takeLabels 36 = .ok (.getfield 116, 3) := by decide +kernel
theorem d_Mo_takeLabels_39 : decode c_Mo_takeLabels 39 = .ok (.bipush 6, 2) := by decide +kernel
theorem d_Mo_takeLabels_41 : decode c_Mo_takeLabels 41 = .ok (.if_icmp .eq 12, 3) := by decide +kernel
theorem d_Mo_takeLabels_44 : decode c_Mo_takeLabels 44 = .ok (.aload_n 0, 1) := by decide +kernel
theorem d_Mo_takeLabels_45 : decode c_Mo_takeLabels 45 = .ok (.getfield 116, 3) := by decide +kernel
theorem d_Mo_takeLabels_48 : decode c_Mo_takeLabels 48 = .ok (.bipush 7, 2) := by decide +kernel
theorem d_Mo_takeLabels_50 : decode c_Mo_takeLabels 50 = .ok (.if_icmp .ne 7, 3) := by decide +kernel
theorem d_Mo_takeLabels_53 : decode c_Mo_takeLabels 53 = .ok (.iconst 1, 1) := by decide +kernel
theorem d_Mo_takeLabels_54 : decode c_Mo_takeLabels 54 = .ok (.goto 4, 3) := by decide +kernel
theorem d_Mo_takeLabels_57 : decode c_Mo_takeLabels 57 = .ok (.iconst 0, 1) := by decide +kernel
theorem d_Mo_takeLabels_58 : decode c_Mo_takeLabels 58 = .ok (.istore_n 3, 1) := by decide +kernel
theorem d_Mo_takeLabels_59 : decode c_Mo_takeLabels 59 = .ok (.iload_n 2, 1) := by decide +kernel
theorem d_Mo_takeLabels_60 : decode c_Mo_takeLabels 60 = .ok (.bipush 51, 2) := by decide +kernel
theorem d_Mo_takeLabels_62 : decode c_Mo_takeLabels 62 = .ok (.if_icmp .eq 27, 3) := by decide +kernel
theorem d_Mo_takeLabels_65 : decode c_Mo_takeLabels 65 = .ok (.aload_n 0, 1) := by decide +kernel
theorem d_Mo_takeLabels_66 : decode c_Mo_takeLabels 66 = .ok (.getfield 116, 3) := by decide +kernel
theorem d_Mo_takeLabels_69 : decode c_Mo_takeLabels 69 = .ok (.iconst 2, 1) := by decide +kernel
theorem d_Mo_takeLabels_70 : decode c_Mo_takeLabels 70 = .ok (.if_icmp .eq 19, 3) := by decide +kernel
theorem d_Mo_takeLabels_73 : decode c_Mo_takeLabels 73 = .ok (.aload_n 0, 1) := by decide +kernel
theorem d_Mo_takeLabels_74 : decode c_Mo_takeLabels 74 = .ok (.getfield 116, 3) := by decide +kernel
theorem d_Mo_takeLabels_77 : decode c_Mo_takeLabels 77 = .ok (.iconst 3, 1) := by decide +kernel
theorem d_Mo_takeLabels_78 : decode c_Mo_takeLabels 78 = .ok (.if_icmp .eq 11, 3) := by decide +kernel
theorem d_Mo_takeLabels_81 : decode c_Mo_takeLabels 81 = .ok (.aload_n 0, 1) := by decide +kernel
theorem d_Mo_takeLabels_82 : decode c_Mo_takeLabels 82 = .ok (.getfield 116, 3) := by decide +kernel
theorem d_Mo_takeLabels_85 : decode c_Mo_takeLabels 85 = .ok (.iconst 4, 1) := by decide +kernel
theorem d_Mo_takeLabels_86 : decode c_Mo_takeLabels 86 = .ok (.if_icmp .ne 7, 3) := by decide +kernel
theorem d_Mo_takeLabels_89 : decode c_Mo_takeLabels 89 = .ok (.iconst 1, 1) := by decide +kernel
theorem d_Mo_takeLabels_90 : decode c_Mo_takeLabels 90 = .ok (.goto 4, 3) := by decide +kernel
theorem d_Mo_takeLabels_93 : decode c_Mo_takeLabels 93 = .ok (.iconst 0, 1) := by decide +kernel
theorem d_Mo_takeLabels_94 : decode c_Mo_takeLabels 94 = .ok (.istore 4, 2) := by decide +kernel
theorem d_Mo_takeLabels_96 : decode c_Mo_takeLabels 96 = .ok (.aload_n 0, 1) := by decide +kernel
theorem d_Mo_takeLabels_97 : decode c_Mo_takeLabels 97 = .ok (.getfield 47, 3) := by decide +kernel
theorem d_Mo_takeLabels_100 : decode c_Mo_takeLabels 100 = .ok (.iconst 0, 1) := by decide +kernel
theorem d_Mo_takeLabels_101 : decode c_Mo_takeLabels 101 = .ok (.aload_n 0, 1) := by decide +kernel
theorem d_Mo_takeLabels_102 : decode c_Mo_takeLabels 102 = .ok (.getfield 65, 3) := by decide +kernel
theorem d_Mo_takeLabels_105 : decode c_Mo_takeLabels 105 = .ok (.iastore, 1) := by decide +kernel
theorem d_Mo_takeLabels_106 : decode c_Mo_takeLabels 106 = .ok (.aload_n 0, 1) := by decide +kernel
theorem d_Mo_takeLabels_107 : decode c_Mo_takeLabels 107 = .ok (.getfield 47, 3) := by decide +kernel
theorem d_Mo_takeLabels_110 : decode c_Mo_takeLabels 110 = .ok (.iconst 1, 1) := by decide +kernel
theorem d_Mo_takeLabels_111 : decode c_Mo_takeLabels 111 = .ok (.iload_n 3, 1) := by decide +kernel
theorem d_Mo_takeLabels_112 : decode c_Mo_takeLabels 112 = .ok (.ifCond .eq 15, 3) := by decide +kernel
theorem d_Mo_takeLabels_115 : decode c_Mo_takeLabels 115 = .ok (.aload_n 0, 1) := by decide +kernel
theorem d_Mo_takeLabels_116 : decode c_Mo_takeLabels 116 = .ok (.getfield 23, 3) := by decide +kernel
theorem d_Mo_takeLabels_119 : decode c_Mo_takeLabels 119 = .ok (.iload_n 1, 1) := by decide +kernel
theorem d_Mo_takeLabels_120 : decode c_Mo_takeLabels 120 = .ok (.invokestatic 100, 3) := by decide +kernel
theorem d_Mo_takeLabels_123 : decode c_Mo_takeLabels 123 = .ok (.iaload, 1) := by decide +kernel
theorem d_Mo_takeLabels_124 : decode c_Mo_takeLabels 124 = .ok (.goto 4, 3) := by decide +kernel
theorem d_Mo_takeLabels_127 : decode c_Mo_takeLabels 127 = .ok (.iconst 0, 1) := by decide +kernel
theorem d_Mo_takeLabels_128 : decode c_Mo_takeLabels 128 = .ok (.iastore, 1) := by decide +kernel
theorem d_Mo_takeLabels_129 : decode c_Mo_takeLabels 129 = .ok (.aload_n 0, 1) := by decide +kernel
theorem d_Mo_takeLabels_130 : decode c_Mo_takeLabels 130 = .ok (.getfield 47, 3) := by decide +kernel
theorem d_Mo_takeLabels_133 : decode c_Mo_takeLabels 133 = .ok (.iconst 2, 1) := by decide +kernel
theorem d_Mo_takeLabels_134 : decode c_Mo_takeLabels 134 = .ok (.iload 4, 2) := by decide +kernel
theorem d_Mo_takeLabels_136 : decode c_Mo_takeLabels 136 = .ok (.ifCond .eq 15, 3) := by decide +kernel
theorem d_Mo_takeLabels_139 : decode c_Mo_takeLabels 139 = .ok (.aload_n 0, 1) := by decide +kernel
theorem d_Mo_takeLabels_140 : decode c_Mo_takeLabels 140 = .ok (.getfield 23, 3) := by decide +kernel
theorem d_Mo_takeLabels_143 : decode c_Mo_takeLabels 143 = .ok (.iload_n 1, 1) := by decide +kernel
theorem d_Mo_takeLabels_144 : decode c_Mo_takeLabels 144 = .ok (.invokestatic 103, 3) := by decide +kernel
theorem d_Mo_takeLabels_147 : decode c_Mo_takeLabels 147 = .ok (.iaload, 1) := by decide +kernel
theorem d_Mo_takeLabels_148 : decode c_Mo_takeLabels 148 = .ok (.goto 4, 3) := by decide +kernel
theorem d_Mo_takeLabels_151 : decode c_Mo_takeLabels 151 = .ok (.iconst 0, 1) := by decide +kernel
theorem d_Mo_takeLabels_152 : decode c_Mo_takeLabels 152 = .ok (.iastore, 1) := by decide +kernel
theorem d_Mo_takeLabels_153 : decode c_Mo_takeLabels 153 = .ok (.aload_n 0, 1) := by decide +kernel
theorem d_Mo_takeLabels_154 : decode c_Mo_takeLabels 154 = .ok (.getfield 47, 3) := by decide +kernel
theorem d_Mo_takeLabels_157 : decode c_Mo_takeLabels 157 = .ok (.iconst 3, 1) := by decide +kernel
theorem d_Mo_takeLabels_158 : decode c_Mo_takeLabels 158 = .ok (.aload_n 0, 1) := by decide +kernel
theorem d_Mo_takeLabels_159 : decode c_Mo_takeLabels 159 = .ok (.getfield 116, 3) := by decide +kernel
theorem d_Mo_takeLabels_162 : decode c_Mo_takeLabels 162 = .ok (.invokestatic 119, 3) := by decide +kernel
theorem d_Mo_takeLabels_165 : decode c_Mo_takeLabels 165 = .ok (.ifCond .eq 22, 3) := by decide +kernel
theorem d_Mo_takeLabels_168 : decode c_Mo_takeLabels 168 = .ok (.aload_n 0, 1) := by decide +kernel
theorem d_Mo_takeLabels_169 : decode c_Mo_takeLabels 169 = .ok (.getfield 29, 3) := by decide +kernel
theorem d_Mo_takeLabels_172 : decode c_Mo_takeLabels 172 = .ok (.aload_n 0, 1) := by decide +kernel
theorem d_Mo_takeLabels_173 : decode c_Mo_takeLabels 173 = .ok (.iload_n 1, 1) := by decide +kernel
theorem d_Mo_takeLabels_174 : decode c_Mo_takeLabels 174 = .ok (.invokevirtual 113, 3) := by decide +kernel
theorem d_Mo_takeLabels_177 : decode c_Mo_takeLabels 177 = .ok (.sipush 4096, 3) := by decide +kernel
theorem d_Mo_takeLabels_180 : decode c_Mo_takeLabels 180 = .ok (.isub, 1) := by decide +kernel
theorem d_Mo_takeLabels_181 : decode c_Mo_takeLabels 181 = .ok (.iconst 4, 1) := by decide +kernel
theorem d_Mo_takeLabels_182 : decode c_Mo_takeLabels 182 = .ok (.idiv, 1) := by decide +kernel
theorem d_Mo_takeLabels_183 : decode c_Mo_takeLabels 183 = .ok (.iaload, 1) := by decide +kernel
theorem d_Mo_takeLabels_184 : decode c_Mo_takeLabels 184 = .ok (.goto 22, 3) := by decide +kernel
theorem d_Mo_takeLabels_187 : decode c_Mo_takeLabels 187 = .ok (.aload_n 0, 1) := by decide +kernel
theorem d_Mo_takeLabels_188 : decode c_Mo_takeLabels 188 = .ok (.getfield 116, 3) := by decide +kernel
theorem d_Mo_takeLabels_191 : decode c_Mo_takeLabels 191 = .ok (.bipush 8, 2) := by decide +kernel
theorem d_Mo_takeLabels_193 : decode c_Mo_takeLabels 193 = .ok (.if_icmp .ne 12, 3) := by decide +kernel
theorem d_Mo_takeLabels_196 : decode c_Mo_takeLabels 196 = .ok (.aload_n 0, 1) := by decide +kernel
theorem d_Mo_takeLabels_197 : decode c_Mo_takeLabels 197 = .ok (.getfield 35, 3) := by decide +kernel
theorem d_Mo_takeLabels_200 : decode c_Mo_takeLabels 200 = .ok (.iconst 0, 1) := by decide +kernel
theorem d_Mo_takeLabels_201 : decode c_Mo_takeLabels 201 = .ok (.iaload, 1) := by decide +kernel
theorem d_Mo_takeLabels_202 : decode c_Mo_takeLabels 202 = .ok (.goto 4, 3) := by decide +kernel
theorem d_Mo_takeLabels_205 : decode c_Mo_takeLabels 205 = .ok (.iconst 0, 1) := by decide +kernel
theorem d_Mo_takeLabels_206 : decode c_Mo_takeLabels 206 = .ok (.iastore, 1) := by decide +kernel
theorem d_Mo_takeLabels_207 : decode c_Mo_takeLabels 207 = .ok (.return_, 1) := by decide +kernel
theorem d_Mo_isAllowed_0 : decode c_Mo_isAllowed 0 = .ok (.aload_n 0, 1) := by decide +kernel
theorem d_Mo_isAllowed_1 : decode c_Mo_isAllowed 1 = .ok (.aload_n 0, 1) := by decide +kernel
theorem d_Mo_isAllowed_2 : decode c_Mo_isAllowed 2 = .ok (.getfield 13, 3) := by decide +kernel
theorem d_Mo_isAllowed_5 : decode c_Mo_isAllowed 5 = .ok (.iconst 4, 1) := by decide +kernel
theorem d_Mo_isAllowed_6 : decode c_Mo_isAllowed 6 = .ok (.aload_n 0, 1) := by decide +kernel
theorem d_Mo_isAllowed_7 : decode c_Mo_isAllowed 7 = .ok (.getfield 116, 3) := by decide +kernel
theorem d_Mo_isAllowed_10 : decode c_Mo_isAllowed 10 = .ok (.imul, 1) := by decide +kernel
theorem d_Mo_isAllowed_11 : decode c_Mo_isAllowed 11 = .ok (.iconst 2, 1) := by decide +kernel
theorem d_Mo_isAllowed_12 : decode c_Mo_isAllowed 12 = .ok (.iadd, 1) := by decide +kernel
theorem d_Mo_isAllowed_13 : decode c_Mo_isAllowed 13 = .ok (.iaload, 1) := by decide +kernel
theorem d_Mo_isAllowed_14 : decode c_Mo_isAllowed 14 = .ok (.invokevirtual 122, 3) := by decide +kernel
theorem d_Mo_isAllowed_17 : decode c_Mo_isAllowed 17 = .ok (.aload_n 0, 1) := by decide +kernel
theorem d_Mo_isAllowed_18 : decode c_Mo_isAllowed 18 = .ok (.aload_n 0, 1) := by decide +kernel
theorem d_Mo_isAllowed_19 : decode c_Mo_isAllowed 19 = .ok (.getfield 13, 3) := by decide +kernel
theorem d_Mo_isAllowed_22 : decode c_Mo_isAllowed 22 = .ok (.iconst 4, 1) := by decide +kernel
theorem d_Mo_isAllowed_23 : decode c_Mo_isAllowed 23 = .ok (.aload_n 0, 1) := by decide +kernel
theorem d_Mo_isAllowed_24 : decode c_Mo_isAllowed 24 = .ok (.getfield 116, 3) := by decide +kernel
theorem d_Mo_isAllowed_27 : decode c_Mo_isAllowed 27 = .ok (.imul, 1) := by decide +kernel
theorem d_Mo_isAllowed_28 : decode c_Mo_isAllowed 28 = .ok (.iconst 3, 1) := by decide +kernel
theorem d_Mo_isAllowed_29 : decode c_Mo_isAllowed 29 = .ok (.iadd, 1) := by decide +kernel
theorem d_Mo_isAllowed_30 : decode c_Mo_isAllowed 30 = .ok (.iaload, 1) := by decide +kernel
theorem d_Mo_isAllowed_31 : decode c_Mo_isAllowed 31 = .ok (.invokevirtual 122, 3) := by decide +kernel
theorem d_Mo_isAllowed_34 : decode c_Mo_isAllowed 34 = .ok (.iconst (-1), 1) := by decide +kernel
theorem d_Mo_isAllowed_35 : decode c_Mo_isAllowed 35 = .ok (.ixor, 1) := by decide +kernel
theorem d_Mo_isAllowed_36 : decode c_Mo_isAllowed 36 = .ok (.iand, 1) := by decide +kernel
theorem d_Mo_isAllowed_37 : decode c_Mo_isAllowed 37 = .ok (.ifCond .ne 7, 3) := by decide +kernel
theorem d_Mo_isAllowed_40 : decode c_Mo_isAllowed 40 = .ok (.iconst 1, 1) := by decide +kernel
theorem d_Mo_isAllowed_41 : decode c_Mo_isAllowed 41 = .ok (.goto 4, 3) := by decide +kernel
theorem d_Mo_isAllowed_44 : decode c_Mo_isAllowed 44 = .ok (.iconst 0, 1) := by decide +kernel
theorem d_Mo_isAllowed_45 : decode c_Mo_isAllowed 45 = .ok (.ireturn, 1) := by decide +kernel
theorem d_Mo_isKnown_0 : decode c_Mo_isKnown 0 = .ok (.iconst 0, 1) := by decide +kernel
theorem d_Mo_isKnown_1 : decode c_Mo_isKnown 1 = .ok (.istore_n 1, 1) := by decide +kernel
theorem d_Mo_isKnown_2 : decode c_Mo_isKnown 2 = .ok (.iload_n 1, 1) := by decide +kernel
theorem d_Mo_isKnown_3 : decode c_Mo_isKnown 3 = .ok (.aload_n 0, 1) := by decide +kernel
theorem d_Mo_isKnown_4 : decode c_Mo_isKnown 4 = .ok (.getfield 80, 3) := by decide +kernel
theorem d_Mo_isKnown_7 : decode c_Mo_isKnown 7 = .ok (.if_icmp .ge 80, 3) := by decide +kernel
theorem d_Mo_isKnown_10 : decode c_Mo_isKnown 10 = .ok (.aload_n 0, 1) := by decide +kernel
theorem d_Mo_isKnown_11 : decode c_Mo_isKnown 11 = .ok (.getfield 44, 3) := by decide +kernel
theorem d_Mo_isKnown_14 : decode c_Mo_isKnown 14 = .ok (.iconst 5, 1) := by decide +kernel
theorem d_Mo_isKnown_15 : decode c_Mo_isKnown 15 = .ok (.iload_n 1, 1) := by decide +kernel
theorem d_Mo_isKnown_16 : decode c_Mo_isKnown 16 = .ok (.imul, 1) := by decide +kernel
theorem d_Mo_isKnown_17 : decode c_Mo_isKnown 17 = .ok (.iaload, 1) := by decide +kernel
theorem d_Mo_isKnown_18 : decode c_Mo_isKnown 18 = .ok (.aload_n 0, 1) := by decide +kernel
theorem d_Mo_isKnown_19 : decode c_Mo_isKnown 19 = .ok (.getfield 116, 3) := by decide +kernel
theorem d_Mo_isKnown_22 : decode c_Mo_isKnown 22 = .ok (.if_icmp .ne 7, 3) := by decide +kernel
theorem d_Mo_isKnown_25 : decode c_Mo_isKnown 25 = .ok (.iconst 1, 1) := by decide +kernel
theorem d_Mo_isKnown_26 : decode c_Mo_isKnown 26 = .ok (.goto 4, 3) := by decide +kernel
theorem d_Mo_isKnown_29 : decode c_Mo_isKnown 29 = .ok (.iconst 0, 1) := by decide +kernel
theorem d_Mo_isKnown_30 : decode c_Mo_isKnown 30 = .ok (.istore_n 2, 1) := by decide +kernel
theorem d_Mo_isKnown_31 : decode c_Mo_isKnown 31 = .ok (.iconst 0, 1) := by decide +kernel
theorem d_Mo_isKnown_32 : decode c_Mo_isKnown 32 = .ok (.istore_n 3, 1) := by decide +kernel
theorem d_Mo_isKnown_33 : decode c_Mo_isKnown 33 = .ok (.iload_n 3, 1) := by decide +kernel
theorem d_Mo_isKnown_34 : decode c_Mo_isKnown 34 = .ok (.iconst 4, 1) := by decide +kernel
theorem d_Mo_isKnown_35 : decode c_Mo_isKnown 35 = .ok (.if_icmp .ge 40, 3) := by decide +kernel
theorem d_Mo_isKnown_38 : decode c_Mo_isKnown 38 = .ok (.iload_n 2, 1) := by decide +kernel
theorem d_Mo_isKnown_39 : decode c_Mo_isKnown 39 = .ok (.ifCond .eq 28, 3) := by decide +kernel
theorem d_Mo_isKnown_42 : decode c_Mo_isKnown 42 = .ok (.aload_n 0, 1) := by decide +kernel
theorem d_Mo_isKnown_43 : decode c_Mo_isKnown 43 = .ok (.getfield 44, 3) := by decide +kernel
theorem d_Mo_isKnown_46 : decode c_Mo_isKnown 46 = .ok (.iconst 5, 1) := by decide +kernel
theorem d_Mo_isKnown_47 : decode c_Mo_isKnown 47 = .ok (.iload_n 1, 1) := by decide +kernel
theorem d_Mo_isKnown_48 : decode c_Mo_isKnown 48 = .ok (.imul, 1) := by decide +kernel
theorem d_Mo_isKnown_49 : decode c_Mo_isKnown 49 = .ok (.iconst 1, 1) := by decide +kernel
theorem d_Mo_isKnown_50 : decode c_Mo_isKnown 50 = .ok (.iadd, 1) := by decide +kernel
theorem d_Mo_isKnown_51 : decode c_Mo_isKnown 51 = .ok (.iload_n 3, 1) := by decide +kernel
theorem d_Mo_isKnown_52 : decode c_Mo_isKnown 52 = .ok (.iadd, 1) := by decide +kernel
theorem d_Mo_isKnown_53 : decode c_Mo_isKnown 53 = .ok (.iaload, 1) := by decide +kernel
theorem d_Mo_isKnown_54 : decode c_Mo_isKnown 54 = .ok (.aload_n 0, 1) := by decide +kernel
theorem d_Mo_isKnown_55 : decode c_Mo_isKnown 55 = .ok (.getfield 47, 3) := by decide +kernel
theorem d_Mo_isKnown_58 : decode c_Mo_isKnown 58 = .ok (.iload_n 3, 1) := by decide +kernel
theorem d_Mo_isKnown_59 : decode c_Mo_isKnown 59 = .ok (.iaload, 1) := by decide +kernel
theorem d_Mo_isKnown_60 : decode c_Mo_isKnown 60 = .ok (.if_icmp .ne 7, 3) := by decide +kernel
theorem d_Mo_isKnown_63 : decode c_Mo_isKnown 63 = .ok (.iconst 1, 1) := by decide +kernel
theorem d_Mo_isKnown_64 : decode c_Mo_isKnown 64 = .ok (.goto 4, 3) := by decide +kernel
theorem d_Mo_isKnown_67 : decode c_Mo_isKnown 67 = .ok (.iconst 0, 1) := by decide +kernel
theorem d_Mo_isKnown_68 : decode c_Mo_isKnown 68 = .ok (.istore_n 2, 1) := by decide +kernel
theorem d_Mo_isKnown_69 : decode c_Mo_isKnown 69 = .ok (.iinc 3 1, 3) := by decide +kernel
theorem d_Mo_isKnown_72 : decode c_Mo_isKnown 72 = .ok (.goto (-39), 3) := by decide +kernel
theorem d_Mo_isKnown_75 : decode c_Mo_isKnown 75 = .ok (.iload_n 2, 1) := by decide +kernel
theorem d_Mo_isKnown_76 : decode c_Mo_isKnown 76 = .ok (.ifCond .eq 5, 3) := by decide +kernel
theorem d_Mo_isKnown_79 : decode c_Mo_isKnown 79 = .ok (.iconst 1, 1) := by decide +kernel
theorem d_Mo_isKnown_80 : decode c_Mo_isKnown 80 = .ok (.ireturn, 1) := by decide +kernel
theorem d_Mo_isKnown_81 : decode c_Mo_isKnown 81 = .ok (.iinc 1 1, 3) := by decide +kernel
theorem d_Mo_isKnown_84 : decode c_Mo_isKnown 84 = .ok (.goto (-82), 3) := by decide +kernel
theorem d_Mo_isKnown_87 : decode c_Mo_isKnown 87 = .ok (.iconst 0, 1) := by decide +kernel
theorem d_Mo_isKnown_88 : decode c_Mo_isKnown 88 = .ok (.ireturn, 1) := by decide +kernel
theorem d_Mo_install_0 : decode c_Mo_install 0 = .ok (.aload_n 0, 1) := by decide +kernel
theorem d_Mo_install_1 : decode c_Mo_install 1 = .ok (.getfield 80, 3) := by decide +kernel
theorem d_Mo_install_4 : decode c_Mo_install 4 = .ok (.aload_n 0, 1) := by decide +kernel
theorem d_Mo_install_5 : decode c_Mo_install 5 = .ok (.getfield 16, 3) := by decide +kernel
theorem d_Mo_install_8 : decode c_Mo_install 8 = .ok (.if_icmp .ne 45, 3) := by decide +kernel
theorem d_Mo_install_11 : decode c_Mo_install 11 = .ok (.aload_n 0, 1) := by decide +kernel
theorem d_Mo_install_12 : decode c_Mo_install 12 = .ok (.dup, 1) := by decide +kernel
theorem d_Mo_install_13 : decode c_Mo_install 13 = .ok (.getfield 80, 3) := by decide +kernel
theorem d_Mo_install_16 : decode c_Mo_install 16 = .ok (.iconst 1, 1) := by decide +kernel
theorem d_Mo_install_17 : decode c_Mo_install 17 = .ok (.isub, 1) := by decide +kernel
theorem d_Mo_install_18 : decode c_Mo_install 18 = .ok (.putfield 80, 3) := by decide +kernel
theorem d_Mo_install_21 : decode c_Mo_install 21 = .ok (.iconst 0, 1) := by decide +kernel
theorem d_Mo_install_22 : decode c_Mo_install 22 = .ok (.istore_n 1, 1) := by decide +kernel
theorem d_Mo_install_23 : decode c_Mo_install 23 = .ok (.iload_n 1, 1) := by decide +kernel
theorem d_Mo_install_24 : decode c_Mo_install 24 = .ok (.iconst 5, 1) := by decide +kernel
theorem d_Mo_install_25 : decode c_Mo_install 25 = .ok (.aload_n 0, 1) := by decide +kernel
theorem d_Mo_install_26 : decode c_Mo_install 26 = .ok (.getfield 80, 3) := by decide +kernel
theorem d_Mo_install_29 : decode c_Mo_install 29 = .ok (.imul, 1) := by decide +kernel
theorem d_Mo_install_30 : decode c_Mo_install 30 = .ok (.if_icmp .ge 23, 3) := by decide +kernel
theorem d_Mo_install_33 : decode c_Mo_install 33 = .ok (.aload_n 0, 1) := by decide +kernel
theorem d_Mo_install_34 : decode c_Mo_install 34 = .ok (.getfield 44, 3) := by decide +kernel
theorem d_Mo_install_37 : decode c_Mo_install 37 = .ok (.iload_n 1, 1) := by decide +kernel
theorem d_Mo_install_38 : decode c_Mo_install 38 = .ok (.aload_n 0, 1) := by decide +kernel
theorem d_Mo_install_39 : decode c_Mo_install 39 = .ok (.getfield 44, 3) := by decide +kernel
theorem d_Mo_install_42 : decode c_Mo_install 42 = .ok (.iload_n 1, 1) := by decide +kernel
theorem d_Mo_install_43 : decode c_Mo_install 43 = .ok (.iconst 5, 1) := by decide +kernel
theorem d_Mo_install_44 : decode c_Mo_install 44 = .ok (.iadd, 1) := by decide +kernel
theorem d_Mo_install_45 : decode c_Mo_install 45 = .ok (.iaload, 1) := by decide +kernel
theorem d_Mo_install_46 : decode c_Mo_install 46 = .ok (.iastore, 1) := by decide +kernel
theorem d_Mo_install_47 : decode c_Mo_install 47 = .ok (.iinc 1 1, 3) := by decide +kernel
theorem d_Mo_install_50 : decode c_Mo_install 50 = .ok (.goto (-27), 3) := by decide +kernel
theorem d_Mo_install_53 : decode c_Mo_install 53 = .ok (.aload_n 0, 1) := by decide +kernel
theorem d_Mo_install_54 : decode c_Mo_install 54 = .ok (.getfield 44, 3) := by decide +kernel
theorem d_Mo_install_57 : decode c_Mo_install 57 = .ok (.iconst 5, 1) := by decide +kernel
theorem d_Mo_install_58 : decode c_Mo_install 58 = .ok (.aload_n 0, 1) := by decide +kernel
theorem d_Mo_install_59 : decode c_Mo_install 59 = .ok (.getfield 80, 3) := by decide +kernel
theorem d_Mo_install_62 : decode c_Mo_install 62 = .ok (.imul, 1) := by decide +kernel
theorem d_Mo_install_63 : decode c_Mo_install 63 = .ok (.aload_n 0, 1) := by decide +kernel
theorem d_Mo_install_64 : decode c_Mo_install 64 = .ok (.getfield 116, 3) := by decide +kernel
theorem d_Mo_install_67 : decode c_Mo_install 67 = .ok (.iastore, 1) := by decide +kernel
theorem d_Mo_install_68 : decode c_Mo_install 68 = .ok (.iconst 0, 1) := by decide +kernel
theorem d_Mo_install_69 : decode c_Mo_install 69 = .ok (.istore_n 1, 1) := by decide +kernel
theorem d_Mo_install_70 : decode c_Mo_install 70 = .ok (.iload_n 1, 1) := by decide +kernel
theorem d_Mo_install_71 : decode c_Mo_install 71 = .ok (.iconst 4, 1) := by decide +kernel
theorem d_Mo_install_72 : decode c_Mo_install 72 = .ok (.if_icmp .ge 30, 3) := by decide +kernel
theorem d_Mo_install_75 : decode c_Mo_install 75 = .ok (.aload_n 0, 1) := by decide +kernel
theorem d_Mo_install_76 : decode c_Mo_install 76 = .ok (.getfield 44, 3) := by decide +kernel
theorem d_Mo_install_79 : decode c_Mo_install 79 = .ok (.iconst 5, 1) := by decide +kernel
theorem d_Mo_install_80 : decode c_Mo_install 80 = .ok (.aload_n 0, 1) := by decide +kernel
theorem d_Mo_install_81 : decode c_Mo_install 81 = .ok (.getfield 80, 3) := by decide +kernel
theorem d_Mo_install_84 : decode c_Mo_install 84 = .ok (.imul, 1) := by decide +kernel
theorem d_Mo_install_85 : decode c_Mo_install 85 = .ok (.iconst 1, 1) := by decide +kernel
theorem d_Mo_install_86 : decode c_Mo_install 86 = .ok (.iadd, 1) := by decide +kernel
theorem d_Mo_install_87 : decode c_Mo_install 87 = .ok (.iload_n 1, 1) := by decide +kernel
theorem d_Mo_install_88 : decode c_Mo_install 88 = .ok (.iadd, 1) := by decide +kernel
theorem d_Mo_install_89 : decode c_Mo_install 89 = .ok (.aload_n 0, 1) := by decide +kernel
theorem d_Mo_install_90 : decode c_Mo_install 90 = .ok (.getfield 47, 3) := by decide +kernel
theorem d_Mo_install_93 : decode c_Mo_install 93 = .ok (.iload_n 1, 1) := by decide +kernel
theorem d_Mo_install_94 : decode c_Mo_install 94 = .ok (.iaload, 1) := by decide +kernel
theorem d_Mo_install_95 : decode c_Mo_install 95 = .ok (.iastore, 1) := by decide +kernel
theorem d_Mo_install_96 : decode c_Mo_install 96 = .ok (.iinc 1 1, 3) := by decide +kernel
theorem d_Mo_install_99 : decode c_Mo_install 99 = .ok (.goto (-29), 3) := by decide +kernel
theorem d_Mo_install_102 : decode c_Mo_install 102 = .ok (.aload_n 0, 1) := by decide +kernel
theorem d_Mo_install_103 : decode c_Mo_install 103 = .ok (.dup, 1) := by decide +kernel
theorem d_Mo_install_104 : decode c_Mo_install 104 = .ok (.getfield 80, 3) := by decide +kernel
theorem d_Mo_install_107 : decode c_Mo_install 107 = .ok (.iconst 1, 1) := by decide +kernel
theorem d_Mo_install_108 : decode c_Mo_install 108 = .ok (.iadd, 1) := by decide +kernel
theorem d_Mo_install_109 : decode c_Mo_install 109 = .ok (.putfield 80, 3) := by decide +kernel
theorem d_Mo_install_112 : decode c_Mo_install 112 = .ok (.return_, 1) := by decide +kernel
theorem d_Mo_put_0 : decode c_Mo_put 0 = .ok (.iload_n 1, 1) := by decide +kernel
theorem d_Mo_put_1 : decode c_Mo_put 1 = .ok (.ifCond .le 17, 3) := by decide +kernel
theorem d_Mo_put_4 : decode c_Mo_put 4 = .ok (.aload_n 0, 1) := by decide +kernel
theorem d_Mo_put_5 : decode c_Mo_put 5 = .ok (.getfield 20, 3) := by decide +kernel
theorem d_Mo_put_8 : decode c_Mo_put 8 = .ok (.iload_n 1, 1) := by decide +kernel
theorem d_Mo_put_9 : decode c_Mo_put 9 = .ok (.iload_n 2, 1) := by decide +kernel
theorem d_Mo_put_10 : decode c_Mo_put 10 = .ok (.iastore, 1) := by decide +kernel
theorem d_Mo_put_11 : decode c_Mo_put 11 = .ok (.aload_n 0, 1) := by decide +kernel
theorem d_Mo_put_12 : decode c_Mo_put 12 = .ok (.getfield 23, 3) := by decide +kernel
theorem d_Mo_put_15 : decode c_Mo_put 15 = .ok (.iload_n 1, 1) := by decide +kernel
theorem d_Mo_put_16 : decode c_Mo_put 16 = .ok (.iload_n 3, 1) := by decide +kernel
theorem d_Mo_put_17 : decode c_Mo_put 17 = .ok (.iastore, 1) := by decide +kernel
theorem d_Mo_put_18 : decode c_Mo_put 18 = .ok (.return_, 1) := by decide +kernel
theorem d_Mo_load_0 : decode c_Mo_load 0 = .ok (.aload_n 0, 1) := by decide +kernel
theorem d_Mo_load_1 : decode c_Mo_load 1 = .ok (.iload_n 1, 1) := by decide +kernel
theorem d_Mo_load_2 : decode c_Mo_load 2 = .ok (.invokevirtual 113, 3) := by decide +kernel
theorem d_Mo_load_5 : decode c_Mo_load 5 = .ok (.sipush 4096, 3) := by decide +kernel
theorem d_Mo_load_8 : decode c_Mo_load 8 = .ok (.isub, 1) := by decide +kernel
theorem d_Mo_load_9 : decode c_Mo_load 9 = .ok (.istore_n 2, 1) := by decide +kernel
theorem d_Mo_load_10 : decode c_Mo_load 10 = .ok (.aload_n 0, 1) := by decide +kernel
theorem d_Mo_load_11 : decode c_Mo_load 11 = .ok (.getfield 26, 3) := by decide +kernel
theorem d_Mo_load_14 : decode c_Mo_load 14 = .ok (.iload_n 2, 1) := by decide +kernel
theorem d_Mo_load_15 : decode c_Mo_load 15 = .ok (.iconst 4, 1) := by decide +kernel
theorem d_Mo_load_16 : decode c_Mo_load 16 = .ok (.idiv, 1) := by decide +kernel
theorem d_Mo_load_17 : decode c_Mo_load 17 = .ok (.iaload, 1) := by decide +kernel
theorem d_Mo_load_18 : decode c_Mo_load 18 = .ok (.istore_n 3, 1) := by decide +kernel
theorem d_Mo_load_19 : decode c_Mo_load 19 = .ok (.iload_n 3, 1) := by decide +kernel
theorem d_Mo_load_20 : decode c_Mo_load 20 = .ok (.bipush 8, 2) := by decide +kernel
theorem d_Mo_load_22 : decode c_Mo_load 22 = .ok (.iload_n 2, 1) := by decide +kernel
theorem d_Mo_load_23 : decode c_Mo_load 23 = .ok (.iconst 4, 1) := by decide +kernel
theorem d_Mo_load_24 : decode c_Mo_load 24 = .ok (.irem, 1) := by decide +kernel
theorem d_Mo_load_25 : decode c_Mo_load 25 = .ok (.imul, 1) := by decide +kernel
theorem d_Mo_load_26 : decode c_Mo_load 26 = .ok (.ishr, 1) := by decide +kernel
theorem d_Mo_load_27 : decode c_Mo_load 27 = .ok (.sipush 255, 3) := by decide +kernel
theorem d_Mo_load_30 : decode c_Mo_load 30 = .ok (.iand, 1) := by decide +kernel
theorem d_Mo_load_31 : decode c_Mo_load 31 = .ok (.istore 4, 2) := by decide +kernel
theorem d_Mo_load_33 : decode c_Mo_load 33 = .ok (.iload_n 1, 1) := by decide +kernel
theorem d_Mo_load_34 : decode c_Mo_load 34 = .ok (.invokestatic 87, 3) := by decide +kernel
theorem d_Mo_load_37 : decode c_Mo_load 37 = .ok (.iconst 2, 1) := by decide +kernel
theorem d_Mo_load_38 : decode c_Mo_load 38 = .ok (.if_icmp .ne 7, 3) := by decide +kernel
theorem d_Mo_load_41 : decode c_Mo_load 41 = .ok (.iload_n 3, 1) := by decide +kernel
theorem d_Mo_load_42 : decode c_Mo_load 42 = .ok (.goto 30, 3) := by decide +kernel
theorem d_Mo_load_45 : decode c_Mo_load 45 = .ok (.iload_n 1, 1) := by decide +kernel
theorem d_Mo_load_46 : decode c_Mo_load 46 = .ok (.invokestatic 87, 3) := by decide +kernel
theorem d_Mo_load_49 : decode c_Mo_load 49 = .ok (.iconst 4, 1) := by decide +kernel
theorem d_Mo_load_50 : decode c_Mo_load 50 = .ok (.if_icmp .eq 11, 3) := by decide +kernel
theorem d_Mo_load_53 : decode c_Mo_load 53 = .ok (.iload 4, 2) := by decide +kernel
theorem d_Mo_load_55 : decode c_Mo_load 55 = .ok (.sipush 128, 3) := by decide +kernel
theorem d_Mo_load_58 : decode c_Mo_load 58 = .ok (.if_icmp .ge 8, 3) := by decide +kernel
theorem d_Mo_load_61 : decode c_Mo_load 61 = .ok (.iload 4, 2) := by decide +kernel
theorem d_Mo_load_63 : decode c_Mo_load 63 = .ok (.goto 9, 3) := by decide +kernel
theorem d_Mo_load_66 : decode c_Mo_load 66 = .ok (.iload 4, 2) := by decide +kernel
theorem d_Mo_load_68 : decode c_Mo_load 68 = .ok (.sipush 256, 3) := by decide +kernel
theorem d_Mo_load_71 : decode c_Mo_load 71 = .ok (.isub, 1) := by decide +kernel
theorem d_Mo_load_72 : decode c_Mo_load 72 = .ok (.ireturn, 1) := by decide +kernel
theorem d_Mo_store_0 : decode c_Mo_store 0 = .ok (.aload_n 0, 1) := by decide +kernel
theorem d_Mo_store_1 : decode c_Mo_store 1 = .ok (.iload_n 1, 1) := by decide +kernel
theorem d_Mo_store_2 : decode c_Mo_store 2 = .ok (.invokevirtual 113, 3) := by decide +kernel
theorem d_Mo_store_5 : decode c_Mo_store 5 = .ok (.sipush 4096, 3) := by decide +kernel
theorem d_Mo_store_8 : decode c_Mo_store 8 = .ok (.isub, 1) := by decide +kernel
theorem d_Mo_store_9 : decode c_Mo_store 9 = .ok (.istore_n 3, 1) := by decide +kernel
theorem d_Mo_store_10 : decode c_Mo_store 10 = .ok (.aload_n 0, 1) := by decide +kernel
theorem d_Mo_store_11 : decode c_Mo_store 11 = .ok (.getfield 20, 3) := by decide +kernel
theorem d_Mo_store_14 : decode c_Mo_store 14 = .ok (.iload_n 1, 1) := by decide +kernel
theorem d_Mo_store_15 : decode c_Mo_store 15 = .ok (.invokestatic 103, 3) := by decide +kernel
theorem d_Mo_store_18 : decode c_Mo_store 18 = .ok (.iaload, 1) := by decide +kernel
theorem d_Mo_store_19 : decode c_Mo_store 19 = .ok (.istore 4, 2) := by decide +kernel
theorem d_Mo_store_21 : decode c_Mo_store 21 = .ok (.aload_n 0, 1) := by decide +kernel
theorem d_Mo_store_22 : decode c_Mo_store 22 = .ok (.getfield 116, 3) := by decide +kernel
theorem d_Mo_store_25 : decode c_Mo_store 25 = .ok (.iconst 3, 1) := by decide +kernel
theorem d_Mo_store_26 : decode c_Mo_store 26 = .ok (.if_icmp .ne 40, 3) := by decide +kernel
theorem d_Mo_store_29 : decode c_Mo_store 29 = .ok (.bipush 8, 2) := by decide +kernel
theorem d_Mo_store_31 : decode c_Mo_store 31 = .ok (.iload_n 3, 1) := by decide +kernel
theorem d_Mo_store_32 : decode c_Mo_store 32 = .ok (.iconst 4, 1) := by decide +kernel
theorem d_Mo_store_33 : decode c_Mo_store 33 = .ok (.irem, 1) := by decide +kernel
theorem d_Mo_store_34 : decode c_Mo_store 34 = .ok (.imul, 1) := by decide +kernel
theorem d_Mo_store_35 : decode c_Mo_store 35 = .ok (.istore 5, 2) := by decide +kernel
theorem d_Mo_store_37 : decode c_Mo_store 37 = .ok (.aload_n 0, 1) := by decide +kernel
theorem d_Mo_store_38 : decode c_Mo_store 38 = .ok (.getfield 26, 3) := by decide +kernel
theorem d_Mo_store_41 : decode c_Mo_store 41 = .ok (.iload_n 3, 1) := by decide +kernel
theorem d_Mo_store_42 : decode c_Mo_store 42 = .ok (.iconst 4, 1) := by decide +kernel
theorem d_Mo_store_43 : decode c_Mo_store 43 = .ok (.idiv, 1) := by decide +kernel
theorem d_Mo_store_44 : decode c_Mo_store 44 = .ok (.iaload, 1) := by decide +kernel
theorem d_Mo_store_45 : decode c_Mo_store 45 = .ok (.sipush 255, 3) := by decide +kernel
theorem d_Mo_store_48 : decode c_Mo_store 48 = .ok (.iload 5, 2) := by decide +kernel
theorem d_Mo_store_50 : decode c_Mo_store 50 = .ok (.ishl, 1) := by decide +kernel
theorem d_Mo_store_51 : decode c_Mo_store 51 = .ok (.iconst (-1), 1) := by decide +kernel
theorem d_Mo_store_52 : decode c_Mo_store 52 = .ok (.ixor, 1) := by decide +kernel
theorem d_Mo_store_53 : decode c_Mo_store 53 = .ok (.iand, 1) := by decide +kernel
theorem d_Mo_store_54 : decode c_Mo_store 54 = .ok (.iload 4, 2) := by decide +kernel
theorem d_Mo_store_56 : decode c_Mo_store 56 = .ok (.sipush 255, 3) := by decide +kernel
theorem d_Mo_store_59 : decode c_Mo_store 59 = .ok (.iand, 1) := by decide +kernel
theorem d_Mo_store_60 : decode c_Mo_store 60 = .ok (.iload 5, 2) := by decide +kernel
theorem d_Mo_store_62 : decode c_Mo_store 62 = .ok (.ishl, 1) := by decide +kernel
theorem d_Mo_store_63 : decode c_Mo_store 63 = .ok (.ior, 1) := by decide +kernel
theorem d_Mo_store_64 : decode c_Mo_store 64 = .ok (.istore 4, 2) := by decide +kernel
theorem d_Mo_store_66 : decode c_Mo_store 66 = .ok (.aload_n 0, 1) := by decide +kernel
theorem d_Mo_store_67 : decode c_Mo_store 67 = .ok (.getfield 26, 3) := by decide +kernel
theorem d_Mo_store_70 : decode c_Mo_store 70 = .ok (.iload_n 3, 1) := by decide +kernel
theorem d_Mo_store_71 : decode c_Mo_store 71 = .ok (.iconst 4, 1) := by decide +kernel
theorem d_Mo_store_72 : decode c_Mo_store 72 = .ok (.idiv, 1) := by decide +kernel
theorem d_Mo_store_73 : decode c_Mo_store 73 = .ok (.iload 4, 2) := by decide +kernel
theorem d_Mo_store_75 : decode c_Mo_store 75 = .ok (.iastore, 1) := by decide +kernel
theorem d_Mo_store_76 : decode c_Mo_store 76 = .ok (.aload_n 0, 1) := by decide +kernel
theorem d_Mo_store_77 : decode c_Mo_store 77 = .ok (.getfield 29, 3) := by decide +kernel
theorem d_Mo_store_80 : decode c_Mo_store 80 = .ok (.iload_n 3, 1) := by decide +kernel
theorem d_Mo_store_81 : decode c_Mo_store 81 = .ok (.iconst 4, 1) := by decide +kernel
theorem d_Mo_store_82 : decode c_Mo_store 82 = .ok (.idiv, 1) := by decide +kernel
theorem d_Mo_store_83 : decode c_Mo_store 83 = .ok (.iload_n 2, 1) := by decide +kernel
theorem d_Mo_store_84 : decode c_Mo_store 84 = .ok (.iastore, 1) := by decide +kernel
theorem d_Mo_store_85 : decode c_Mo_store 85 = .ok (.return_, 1) := by decide +kernel
theorem d_Mo_takeIn_0 : decode c_Mo_takeIn 0 = .ok (.aload_n 0, 1) := by decide +kernel
theorem d_Mo_takeIn_1 : decode c_Mo_takeIn 1 = .ok (.getfield 32, 3) := by decide +kernel
theorem d_Mo_takeIn_4 : decode c_Mo_takeIn 4 = .ok (.iconst 0, 1) := by decide +kernel
theorem d_Mo_takeIn_5 : decode c_Mo_takeIn 5 = .ok (.iaload, 1) := by decide +kernel
theorem d_Mo_takeIn_6 : decode c_Mo_takeIn 6 = .ok (.istore_n 1, 1) := by decide +kernel
theorem d_Mo_takeIn_7 : decode c_Mo_takeIn 7 = .ok (.aload_n 0, 1) := by decide +kernel
theorem d_Mo_takeIn_8 : decode c_Mo_takeIn 8 = .ok (.dup, 1) := by decide +kernel
theorem d_Mo_takeIn_9 : decode c_Mo_takeIn 9 = .ok (.getfield 68, 3) := by decide +kernel
theorem d_Mo_takeIn_12 : decode c_Mo_takeIn 12 = .ok (.iconst 1, 1) := by decide +kernel
theorem d_Mo_takeIn_13 : decode c_Mo_takeIn 13 = .ok (.isub, 1) := by decide +kernel
theorem d_Mo_takeIn_14 : decode c_Mo_takeIn 14 = .ok (.putfield 68, 3) := by decide +kernel
theorem d_Mo_takeIn_17 : decode c_Mo_takeIn 17 = .ok (.iconst 0, 1) := by decide +kernel
theorem d_Mo_takeIn_18 : decode c_Mo_takeIn 18 = .ok (.istore_n 2, 1) := by decide +kernel
theorem d_Mo_takeIn_19 : decode c_Mo_takeIn 19 = .ok (.iload_n 2, 1) := by decide +kernel
theorem d_Mo_takeIn_20 : decode c_Mo_takeIn 20 = .ok (.aload_n 0, 1) := by decide +kernel
theorem d_Mo_takeIn_21 : decode c_Mo_takeIn 21 = .ok (.getfield 68, 3) := by decide +kernel
theorem d_Mo_takeIn_24 : decode c_Mo_takeIn 24 = .ok (.if_icmp .ge 37, 3) := by decide +kernel
theorem d_Mo_takeIn_27 : decode c_Mo_takeIn 27 = .ok (.aload_n 0, 1) := by decide +kernel
theorem d_Mo_takeIn_28 : decode c_Mo_takeIn 28 = .ok (.getfield 32, 3) := by decide +kernel
theorem d_Mo_takeIn_31 : decode c_Mo_takeIn 31 = .ok (.iload_n 2, 1) := by decide +kernel
theorem d_Mo_takeIn_32 : decode c_Mo_takeIn 32 = .ok (.aload_n 0, 1) := by decide +kernel
theorem d_Mo_takeIn_33 : decode c_Mo_takeIn 33 = .ok (.getfield 32, 3) := by decide +kernel
theorem d_Mo_takeIn_36 : decode c_Mo_takeIn 36 = .ok (.iload_n 2, 1) := by decide +kernel
theorem d_Mo_takeIn_37 : decode c_Mo_takeIn 37 = .ok (.iconst 1, 1) := by decide +kernel
theorem d_Mo_takeIn_38 : decode c_Mo_takeIn 38 = .ok (.iadd, 1) := by decide +kernel
theorem d_Mo_takeIn_39 : decode c_Mo_takeIn 39 = .ok (.iaload, 1) := by decide +kernel
theorem d_Mo_takeIn_40 : decode c_Mo_takeIn 40 = .ok (.iastore, 1) := by decide +kernel
theorem d_Mo_takeIn_41 : decode c_Mo_takeIn 41 = .ok (.aload_n 0, 1) := by decide +kernel
theorem d_Mo_takeIn_42 : decode c_Mo_takeIn 42 = .ok (.getfield 35, 3) := by decide +kernel
theorem d_Mo_takeIn_45 : decode c_Mo_takeIn 45 = .ok (.iload_n 2, 1) := by decide +kernel
theorem d_Mo_takeIn_46 : decode c_Mo_takeIn 46 = .ok (.aload_n 0, 1) := by decide +kernel
theorem d_Mo_takeIn_47 : decode c_Mo_takeIn 47 = .ok (.getfield 35, 3) := by decide +kernel
theorem d_Mo_takeIn_50 : decode c_Mo_takeIn 50 = .ok (.iload_n 2, 1) := by decide +kernel
theorem d_Mo_takeIn_51 : decode c_Mo_takeIn 51 = .ok (.iconst 1, 1) := by decide +kernel
theorem d_Mo_takeIn_52 : decode c_Mo_takeIn 52 = .ok (.iadd, 1) := by decide +kernel
theorem d_Mo_takeIn_53 : decode c_Mo_takeIn 53 = .ok (.iaload, 1) := by decide +kernel
theorem d_Mo_takeIn_54 : decode c_Mo_takeIn 54 = .ok (.iastore, 1) := by decide +kernel
theorem d_Mo_takeIn_55 : decode c_Mo_takeIn 55 = .ok (.iinc 2 1, 3) := by decide +kernel
theorem d_Mo_takeIn_58 : decode c_Mo_takeIn 58 = .ok (.goto (-39), 3) := by decide +kernel
theorem d_Mo_takeIn_61 : decode c_Mo_takeIn 61 = .ok (.iload_n 1, 1) := by decide +kernel
theorem d_Mo_takeIn_62 : decode c_Mo_takeIn 62 = .ok (.ireturn, 1) := by decide +kernel
theorem d_Mo_obey_0 : decode c_Mo_obey 0 = .ok (.aload_n 0, 1) := by decide +kernel
theorem d_Mo_obey_1 : decode c_Mo_obey 1 = .ok (.aload_n 0, 1) := by decide +kernel
theorem d_Mo_obey_2 : decode c_Mo_obey 2 = .ok (.getfield 13, 3) := by decide +kernel
theorem d_Mo_obey_5 : decode c_Mo_obey 5 = .ok (.iconst 4, 1) := by decide +kernel
theorem d_Mo_obey_6 : decode c_Mo_obey 6 = .ok (.aload_n 0, 1) := by decide +kernel
theorem d_Mo_obey_7 : decode c_Mo_obey 7 = .ok (.getfield 116, 3) := by decide +kernel
theorem d_Mo_obey_10 : decode c_Mo_obey 10 = .ok (.imul, 1) := by decide +kernel
theorem d_Mo_obey_11 : decode c_Mo_obey 11 = .ok (.iaload, 1) := by decide +kernel
theorem d_Mo_obey_12 : decode c_Mo_obey 12 = .ok (.invokevirtual 122, 3) := by decide +kernel
theorem d_Mo_obey_15 : decode c_Mo_obey 15 = .ok (.istore_n 2, 1) := by decide +kernel
theorem d_Mo_obey_16 : decode c_Mo_obey 16 = .ok (.aload_n 0, 1) := by decide +kernel
theorem d_Mo_obey_17 : decode c_Mo_obey 17 = .ok (.aload_n 0, 1) := by decide +kernel
theorem d_Mo_obey_18 : decode c_Mo_obey 18 = .ok (.getfield 13, 3) := by decide +kernel
theorem d_Mo_obey_21 : decode c_Mo_obey 21 = .ok (.iconst 4, 1) := by decide +kernel
theorem d_Mo_obey_22 : decode c_Mo_obey 22 = .ok (.aload_n 0, 1) := by decide +kernel
theorem d_Mo_obey_23 : decode c_Mo_obey 23 = .ok (.getfield 116, 3) := by decide +kernel
theorem d_Mo_obey_26 : decode c_Mo_obey 26 = .ok (.imul, 1) := by decide +kernel
theorem d_Mo_obey_27 : decode c_Mo_obey 27 = .ok (.iconst 1, 1) := by decide +kernel
theorem d_Mo_obey_28 : decode c_Mo_obey 28 = .ok (.iadd, 1) := by decide +kernel
theorem d_Mo_obey_29 : decode c_Mo_obey 29 = .ok (.iaload, 1) := by decide +kernel
theorem d_Mo_obey_30 : decode c_Mo_obey 30 = .ok (.invokevirtual 122, 3) := by decide +kernel
theorem d_Mo_obey_33 : decode c_Mo_obey 33 = .ok (.istore_n 3, 1) := by decide +kernel
theorem d_Mo_obey_34 : decode c_Mo_obey 34 = .ok (.aload_n 0, 1) := by decide +kernel
theorem d_Mo_obey_35 : decode c_Mo_obey 35 = .ok (.getfield 62, 3) := by decide +kernel
theorem d_Mo_obey_38 : decode c_Mo_obey 38 = .ok (.iconst 4, 1) := by decide +kernel
theorem d_Mo_obey_39 : decode c_Mo_obey 39 = .ok (.iadd, 1) := by decide +kernel
theorem d_Mo_obey_40 : decode c_Mo_obey 40 = .ok (.istore 4, 2) := by decide +kernel
theorem d_Mo_obey_42 : decode c_Mo_obey 42 = .ok (.aload_n 0, 1) := by decide +kernel
theorem d_Mo_obey_43 : decode c_Mo_obey 43 = .ok (.getfield 116, 3) := by decide +kernel
theorem d_Mo_obey_46 : decode c_Mo_obey 46 = .ok (.ifCond .ne 20, 3) := by decide +kernel
theorem d_Mo_obey_49 : decode c_Mo_obey 49 = .ok (.aload_n 0, 1) := by decide +kernel
theorem d_Mo_obey_50 : decode c_Mo_obey 50 = .ok (.iload_n 1, 1) := by decide +kernel
theorem d_Mo_obey_51 : decode c_Mo_obey 51 = .ok (.invokestatic 110, 3) := by decide +kernel
theorem d_Mo_obey_54 : decode c_Mo_obey 54 = .ok (.aload_n 0, 1) := by decide +kernel
theorem d_Mo_obey_55 : decode c_Mo_obey 55 = .ok (.iload_n 1, 1) := by decide +kernel
theorem d_Mo_obey_56 : decode c_Mo_obey 56 = .ok (.invokevirtual 125, 3) := by decide +kernel
theorem d_Mo_obey_59 : decode c_Mo_obey 59 = .ok (.iload_n 2, 1) := by decide +kernel
theorem d_Mo_obey_60 : decode c_Mo_obey 60 = .ok (.invokevirtual 128, 3) := by decide +kernel
theorem d_Mo_obey_63 : decode c_Mo_obey 63 = .ok (.goto 222, 3) := by decide +kernel
theorem d_Mo_obey_66 : decode c_Mo_obey 66 = .ok (.aload_n 0, 1) := by decide +kernel
theorem d_Mo_obey_67 : decode c_Mo_obey 67 = .ok (.getfield 116, 3) := by decide +kernel
theorem d_Mo_obey_70 : decode c_Mo_obey 70 = .ok (.iconst 1, 1) := by decide +kernel
theorem d_Mo_obey_71 : decode c_Mo_obey 71 = .ok (.if_icmp .ne 20, 3) := by decide +kernel
theorem d_Mo_obey_74 : decode c_Mo_obey 74 = .ok (.aload_n 0, 1) := by decide +kernel
theorem d_Mo_obey_75 : decode c_Mo_obey 75 = .ok (.iload_n 1, 1) := by decide +kernel
theorem d_Mo_obey_76 : decode c_Mo_obey 76 = .ok (.invokestatic 110, 3) := by decide +kernel
theorem d_Mo_obey_79 : decode c_Mo_obey 79 = .ok (.aload_n 0, 1) := by decide +kernel
theorem d_Mo_obey_80 : decode c_Mo_obey 80 = .ok (.iload_n 1, 1) := by decide +kernel
theorem d_Mo_obey_81 : decode c_Mo_obey 81 = .ok (.invokevirtual 132, 3) := by decide +kernel
theorem d_Mo_obey_84 : decode c_Mo_obey 84 = .ok (.iload_n 2, 1) := by decide +kernel
theorem d_Mo_obey_85 : decode c_Mo_obey 85 = .ok (.invokevirtual 128, 3) := by decide +kernel
theorem d_Mo_obey_88 : decode c_Mo_obey 88 = .ok (.goto 197, 3) := by decide +kernel
theorem d_Mo_obey_91 : decode c_Mo_obey 91 = .ok (.aload_n 0, 1) := by decide +kernel
theorem d_Mo_obey_92 : decode c_Mo_obey 92 = .ok (.getfield 116, 3) := by decide +kernel
theorem d_Mo_obey_95 : decode c_Mo_obey 95 = .ok (.iconst 4, 1) := by decide +kernel
theorem d_Mo_obey_96 : decode c_Mo_obey 96 = .ok (.if_icmp .ge 12, 3) := by decide +kernel
theorem d_Mo_obey_99 : decode c_Mo_obey 99 = .ok (.aload_n 0, 1) := by decide +kernel
theorem d_Mo_obey_100 : decode c_Mo_obey 100 = .ok (.iload_n 1, 1) := by decide +kernel
theorem d_Mo_obey_101 : decode c_Mo_obey 101 = .ok (.iload_n 2, 1) := by decide +kernel
theorem d_Mo_obey_102 : decode c_Mo_obey 102 = .ok (.invokevirtual 135, 3) := by decide +kernel
theorem d_Mo_obey_105 : decode c_Mo_obey 105 = .ok (.goto 180, 3) := by decide +kernel
theorem d_Mo_obey_108 : decode c_Mo_obey 108 = .ok (.aload_n 0, 1) := by decide +kernel
theorem d_Mo_obey_109 : decode c_Mo_obey 109 = .ok (.getfield 116, 3) := by decide +kernel
theorem d_Mo_obey_112 : decode c_Mo_obey 112 = .ok (.iconst 4, 1) := by decide +kernel
theorem d_Mo_obey_113 : decode c_Mo_obey 113 = .ok (.if_icmp .ne 30, 3) := by decide +kernel
theorem d_Mo_obey_116 : decode c_Mo_obey 116 = .ok (.aload_n 0, 1) := by decide +kernel
theorem d_Mo_obey_117 : decode c_Mo_obey 117 = .ok (.iload_n 1, 1) := by decide +kernel
theorem d_Mo_obey_118 : decode c_Mo_obey 118 = .ok (.invokevirtual 139, 3) := by decide +kernel
theorem d_Mo_obey_121 : decode c_Mo_obey 121 = .ok (.ifCond .eq 15, 3) := by decide +kernel
theorem d_Mo_obey_124 : decode c_Mo_obey 124 = .ok (.aload_n 0, 1) := by decide +kernel
theorem d_Mo_obey_125 : decode c_Mo_obey 125 = .ok (.getfield 62, 3) := by decide +kernel
theorem d_Mo_obey_128 : decode c_Mo_obey 128 = .ok (.iload_n 1, 1) := by decide +kernel
theorem d_Mo_obey_129 : decode c_Mo_obey 129 = .ok (.invokestatic 142, 3) := by decide +kernel
theorem d_Mo_obey_132 : decode c_Mo_obey 132 = .ok (.iadd, 1) := by decide +kernel
theorem d_Mo_obey_133 : decode c_Mo_obey 133 = .ok (.goto 5, 3) := by decide +kernel
theorem d_Mo_obey_136 : decode c_Mo_obey 136 = .ok (.iload 4, 2) := by decide +kernel
theorem d_Mo_obey_138 : decode c_Mo_obey 138 = .ok (.istore 4, 2) := by decide +kernel
theorem d_Mo_obey_140 : decode c_Mo_obey 140 = .ok (.goto 145, 3) := by decide +kernel
theorem d_Mo_obey_143 : decode c_Mo_obey 143 = .ok (.aload_n 0, 1) := by decide +kernel
theorem d_Mo_obey_144 : decode c_Mo_obey 144 = .ok (.getfield 116, 3) := by decide +kernel
theorem d_Mo_obey_147 : decode c_Mo_obey 147 = .ok (.iconst 5, 1) := by decide +kernel
theorem d_Mo_obey_148 : decode c_Mo_obey 148 = .ok (.if_icmp .ne 28, 3) := by decide +kernel
theorem d_Mo_obey_151 : decode c_Mo_obey 151 = .ok (.aload_n 0, 1) := by decide +kernel
theorem d_Mo_obey_152 : decode c_Mo_obey 152 = .ok (.iload_n 1, 1) := by decide +kernel
theorem d_Mo_obey_153 : decode c_Mo_obey 153 = .ok (.invokestatic 110, 3) := by decide +kernel
theorem d_Mo_obey_156 : decode c_Mo_obey 156 = .ok (.iload 4, 2) := by decide +kernel
theorem d_Mo_obey_158 : decode c_Mo_obey 158 = .ok (.iload_n 2, 1) := by decide +kernel
theorem d_Mo_obey_159 : decode c_Mo_obey 159 = .ok (.invokevirtual 128, 3) := by decide +kernel
theorem d_Mo_obey_162 : decode c_Mo_obey 162 = .ok (.aload_n 0, 1) := by decide +kernel
theorem d_Mo_obey_163 : decode c_Mo_obey 163 = .ok (.getfield 62, 3) := by decide +kernel
theorem d_Mo_obey_166 : decode c_Mo_obey 166 = .ok (.iload_n 1, 1) := by decide +kernel
theorem d_Mo_obey_167 : decode c_Mo_obey 167 = .ok (.invokestatic 145, 3) := by decide +kernel
theorem d_Mo_obey_170 : decode c_Mo_obey 170 = .ok (.iadd, 1) := by decide +kernel
theorem d_Mo_obey_171 : decode c_Mo_obey 171 = .ok (.istore 4, 2) := by decide +kernel
theorem d_Mo_obey_173 : decode c_Mo_obey 173 = .ok (.goto 112, 3) := by decide +kernel
theorem d_Mo_obey_176 : decode c_Mo_obey 176 = .ok (.aload_n 0, 1) := by decide +kernel
theorem d_Mo_obey_177 : decode c_Mo_obey 177 = .ok (.getfield 116, 3) := by decide +kernel
theorem d_Mo_obey_180 : decode c_Mo_obey 180 = .ok (.bipush 6, 2) := by decide +kernel
theorem d_Mo_obey_182 : decode c_Mo_obey 182 = .ok (.if_icmp .ne 40, 3) := by decide +kernel
theorem d_Mo_obey_185 : decode c_Mo_obey 185 = .ok (.aload_n 0, 1) := by decide +kernel
theorem d_Mo_obey_186 : decode c_Mo_obey 186 = .ok (.getfield 20, 3) := by decide +kernel
theorem d_Mo_obey_189 : decode c_Mo_obey 189 = .ok (.iload_n 1, 1) := by decide +kernel
theorem d_Mo_obey_190 : decode c_Mo_obey 190 = .ok (.invokestatic 100, 3) := by decide +kernel
theorem d_Mo_obey_193 : decode c_Mo_obey 193 = .ok (.iaload, 1) := by decide +kernel
theorem d_Mo_obey_194 : decode c_Mo_obey 194 = .ok (.iload_n 1, 1) := by decide +kernel
theorem d_Mo_obey_195 : decode c_Mo_obey 195 = .ok (.bipush 20, 2) := by decide +kernel
theorem d_Mo_obey_197 : decode c_Mo_obey 197 = .ok (.ishr, 1) := by decide +kernel
theorem d_Mo_obey_198 : decode c_Mo_obey 198 = .ok (.iadd, 1) := by decide +kernel
theorem d_Mo_obey_199 : decode c_Mo_obey 199 = .ok (.bipush (-2), 2) := by decide +kernel
theorem d_Mo_obey_201 : decode c_Mo_obey 201 = .ok (.iand, 1) := by decide +kernel
theorem d_Mo_obey_202 : decode c_Mo_obey 202 = .ok (.istore 5, 2) := by decide +kernel
theorem d_Mo_obey_204 : decode c_Mo_obey 204 = .ok (.aload_n 0, 1) := by decide +kernel
theorem d_Mo_obey_205 : decode c_Mo_obey 205 = .ok (.iload_n 1, 1) := by decide +kernel
theorem d_Mo_obey_206 : decode c_Mo_obey 206 = .ok (.invokestatic 110, 3) := by decide +kernel
theorem d_Mo_obey_209 : decode c_Mo_obey 209 = .ok (.iload 4, 2) := by decide +kernel
theorem d_Mo_obey_211 : decode c_Mo_obey 211 = .ok (.iload_n 2, 1) := by decide +kernel
theorem d_Mo_obey_212 : decode c_Mo_obey 212 = .ok (.invokevirtual 128, 3) := by decide +kernel
theorem d_Mo_obey_215 : decode c_Mo_obey 215 = .ok (.iload 5, 2) := by decide +kernel
theorem d_Mo_obey_217 : decode c_Mo_obey 217 = .ok (.istore 4, 2) := by decide +kernel
theorem d_Mo_obey_219 : decode c_Mo_obey 219 = .ok (.goto 66, 3) := by decide +kernel
theorem d_Mo_obey_222 : decode c_Mo_obey 222 = .ok (.aload_n 0, 1) := by decide +kernel
theorem d_Mo_obey_223 : decode c_Mo_obey 223 = .ok (.getfield 116, 3) := by decide +kernel
theorem d_Mo_obey_226 : decode c_Mo_obey 226 = .ok (.bipush 7, 2) := by decide +kernel
theorem d_Mo_obey_228 : decode c_Mo_obey 228 = .ok (.if_icmp .ne 44, 3) := by decide +kernel
theorem d_Mo_obey_231 : decode c_Mo_obey 231 = .ok (.aload_n 0, 1) := by decide +kernel
theorem d_Mo_obey_232 : decode c_Mo_obey 232 = .ok (.getfield 38, 3) := by decide +kernel
theorem d_Mo_obey_235 : decode c_Mo_obey 235 = .ok (.aload_n 0, 1) := by decide +kernel
theorem d_Mo_obey_236 : decode c_Mo_obey 236 = .ok (.getfield 71, 3) := by decide +kernel
theorem d_Mo_obey_239 : decode c_Mo_obey 239 = .ok (.aload_n 0, 1) := by decide +kernel
theorem d_Mo_obey_240 : decode c_Mo_obey 240 = .ok (.getfield 20, 3) := by decide +kernel
theorem d_Mo_obey_243 : decode c_Mo_obey 243 = .ok (.iload_n 1, 1) := by decide +kernel
theorem d_Mo_obey_244 : decode c_Mo_obey 244 = .ok (.invokestatic 100, 3) := by decide +kernel
theorem d_Mo_obey_247 : decode c_Mo_obey 247 = .ok (.iaload, 1) := by decide +kernel
theorem d_Mo_obey_248 : decode c_Mo_obey 248 = .ok (.iastore, 1) := by decide +kernel
theorem d_Mo_obey_249 : decode c_Mo_obey 249 = .ok (.aload_n 0, 1) := by decide +kernel
theorem d_Mo_obey_250 : decode c_Mo_obey 250 = .ok (.getfield 41, 3) := by decide +kernel
theorem d_Mo_obey_253 : decode c_Mo_obey 253 = .ok (.aload_n 0, 1) := by decide +kernel
theorem d_Mo_obey_254 : decode c_Mo_obey 254 = .ok (.getfield 71, 3) := by decide +kernel
theorem d_Mo_obey_257 : decode c_Mo_obey 257 = .ok (.iload_n 2, 1) := by decide +kernel
theorem d_Mo_obey_258 : decode c_Mo_obey 258 = .ok (.iastore, 1) := by decide +kernel
theorem d_Mo_obey_259 : decode c_Mo_obey 259 = .ok (.aload_n 0, 1) := by decide +kernel
theorem d_Mo_obey_260 : decode c_Mo_obey 260 = .ok (.dup, 1) := by decide +kernel
theorem d_Mo_obey_261 : decode c_Mo_obey 261 = .ok (.getfield 71, 3) := by decide +kernel
theorem d_Mo_obey_264 : decode c_Mo_obey 264 = .ok (.iconst 1, 1) := by decide +kernel
theorem d_Mo_obey_265 : decode c_Mo_obey 265 = .ok (.iadd, 1) := by decide +kernel
theorem d_Mo_obey_266 : decode c_Mo_obey 266 = .ok (.putfield 71, 3) := by decide +kernel
theorem d_Mo_obey_269 : decode c_Mo_obey 269 = .ok (.goto 16, 3) := by decide +kernel
theorem d_Mo_obey_272 : decode c_Mo_obey 272 = .ok (.aload_n 0, 1) := by decide +kernel
theorem d_Mo_obey_273 : decode c_Mo_obey 273 = .ok (.iload_n 1, 1) := by decide +kernel
theorem d_Mo_obey_274 : decode c_Mo_obey 274 = .ok (.invokestatic 110, 3) := by decide +kernel
theorem d_Mo_obey_277 : decode c_Mo_obey 277 = .ok (.aload_n 0, 1) := by decide +kernel
theorem d_Mo_obey_278 : decode c_Mo_obey 278 = .ok (.invokevirtual 148, 3) := by decide +kernel
theorem d_Mo_obey_281 : decode c_Mo_obey 281 = .ok (.iload_n 2, 1) := by decide +kernel
theorem d_Mo_obey_282 : decode c_Mo_obey 282 = .ok (.invokevirtual 128, 3) := by decide +kernel
theorem d_Mo_obey_285 : decode c_Mo_obey 285 = .ok (.aload_n 0, 1) := by decide +kernel
theorem d_Mo_obey_286 : decode c_Mo_obey 286 = .ok (.iload 4, 2) := by decide +kernel
theorem d_Mo_obey_288 : decode c_Mo_obey 288 = .ok (.putfield 62, 3) := by decide +kernel
theorem d_Mo_obey_291 : decode c_Mo_obey 291 = .ok (.aload_n 0, 1) := by decide +kernel
theorem d_Mo_obey_292 : decode c_Mo_obey 292 = .ok (.iload_n 3, 1) := by decide +kernel
theorem d_Mo_obey_293 : decode c_Mo_obey 293 = .ok (.putfield 65, 3) := by decide +kernel
theorem d_Mo_obey_296 : decode c_Mo_obey 296 = .ok (.aload_n 0, 1) := by decide +kernel
theorem d_Mo_obey_297 : decode c_Mo_obey 297 = .ok (.dup, 1) := by decide +kernel
theorem d_Mo_obey_298 : decode c_Mo_obey 298 = .ok (.getfield 74, 3) := by decide +kernel
theorem d_Mo_obey_301 : decode c_Mo_obey 301 = .ok (.iconst 1, 1) := by decide +kernel
theorem d_Mo_obey_302 : decode c_Mo_obey 302 = .ok (.iadd, 1) := by decide +kernel
theorem d_Mo_obey_303 : decode c_Mo_obey 303 = .ok (.putfield 74, 3) := by decide +kernel
theorem d_Mo_obey_306 : decode c_Mo_obey 306 = .ok (.return_, 1) := by decide +kernel
theorem d_Mo_step_0 : decode c_Mo_step 0 = .ok (.aload_n 0, 1) := by decide +kernel
theorem d_Mo_step_1 : decode c_Mo_step 1 = .ok (.getfield 62, 3) := by decide +kernel
theorem d_Mo_step_4 : decode c_Mo_step 4 = .ok (.ifCond .lt 25, 3) := by decide +kernel
theorem d_Mo_step_7 : decode c_Mo_step 7 = .ok (.aload_n 0, 1) := by decide +kernel
theorem d_Mo_step_8 : decode c_Mo_step 8 = .ok (.getfield 62, 3) := by decide +kernel
theorem d_Mo_step_11 : decode c_Mo_step 11 = .ok (.iconst 4, 1) := by decide +kernel
theorem d_Mo_step_12 : decode c_Mo_step 12 = .ok (.irem, 1) := by decide +kernel
theorem d_Mo_step_13 : decode c_Mo_step 13 = .ok (.ifCond .ne 16, 3) := by decide +kernel
theorem d_Mo_step_16 : decode c_Mo_step 16 = .ok (.aload_n 0, 1) := by decide +kernel
theorem d_Mo_step_17 : decode c_Mo_step 17 = .ok (.getfield 62, 3) := by decide +kernel
theorem d_Mo_step_20 : decode c_Mo_step 20 = .ok (.iconst 4, 1) := by decide +kernel
theorem d_Mo_step_21 : decode c_Mo_step 21 = .ok (.idiv, 1) := by decide +kernel
theorem d_Mo_step_22 : decode c_Mo_step 22 = .ok (.aload_n 0, 1) := by decide +kernel
theorem d_Mo_step_23 : decode c_Mo_step 23 = .ok (.getfield 53, 3) := by decide +kernel
theorem d_Mo_step_26 : decode c_Mo_step 26 = .ok (.if_icmp .lt 10, 3) := by decide +kernel
theorem d_Mo_step_29 : decode c_Mo_step 29 = .ok (.aload_n 0, 1) := by decide +kernel
theorem d_Mo_step_30 : decode c_Mo_step 30 = .ok (.iconst 4, 1) := by decide +kernel
theorem d_Mo_step_31 : decode c_Mo_step 31 = .ok (.putfield 59, 3) := by decide +kernel
theorem d_Mo_step_34 : decode c_Mo_step 34 = .ok (.iconst 0, 1) := by decide +kernel
theorem d_Mo_step_35 : decode c_Mo_step 35 = .ok (.ireturn, 1) := by decide +kernel
theorem d_Mo_step_36 : decode c_Mo_step 36 = .ok (.aload_n 0, 1) := by decide +kernel
theorem d_Mo_step_37 : decode c_Mo_step 37 = .ok (.getfield 7, 3) := by decide +kernel
theorem d_Mo_step_40 : decode c_Mo_step 40 = .ok (.aload_n 0, 1) := by decide +kernel
theorem d_Mo_step_41 : decode c_Mo_step 41 = .ok (.getfield 62, 3) := by decide +kernel
theorem d_Mo_step_44 : decode c_Mo_step 44 = .ok (.iconst 4, 1) := by decide +kernel
theorem d_Mo_step_45 : decode c_Mo_step 45 = .ok (.idiv, 1) := by decide +kernel
theorem d_Mo_step_46 : decode c_Mo_step 46 = .ok (.iaload, 1) := by decide +kernel
theorem d_Mo_step_47 : decode c_Mo_step 47 = .ok (.istore_n 1, 1) := by decide +kernel
theorem d_Mo_step_48 : decode c_Mo_step 48 = .ok (.aload_n 0, 1) := by decide +kernel
theorem d_Mo_step_49 : decode c_Mo_step 49 = .ok (.iload_n 1, 1) := by decide +kernel
theorem d_Mo_step_50 : decode c_Mo_step 50 = .ok (.invokestatic 152, 3) := by decide +kernel
theorem d_Mo_step_53 : decode c_Mo_step 53 = .ok (.putfield 116, 3) := by decide +kernel
theorem d_Mo_step_56 : decode c_Mo_step 56 = .ok (.aload_n 0, 1) := by decide +kernel
theorem d_Mo_step_57 : decode c_Mo_step 57 = .ok (.getfield 116, 3) := by decide +kernel
theorem d_Mo_step_60 : decode c_Mo_step 60 = .ok (.ifCond .lt 12, 3) := by decide +kernel
theorem d_Mo_step_63 : decode c_Mo_step 63 = .ok (.aload_n 0, 1) := by decide +kernel
theorem d_Mo_step_64 : decode c_Mo_step 64 = .ok (.getfield 116, 3) := by decide +kernel
theorem d_Mo_step_67 : decode c_Mo_step 67 = .ok (.bipush 9, 2) := by decide +kernel
theorem d_Mo_step_69 : decode c_Mo_step 69 = .ok (.if_icmp .ne 21, 3) := by decide +kernel
theorem d_Mo_step_72 : decode c_Mo_step 72 = .ok (.aload_n 0, 1) := by decide +kernel
theorem d_Mo_step_73 : decode c_Mo_step 73 = .ok (.aload_n 0, 1) := by decide +kernel
theorem d_Mo_step_74 : decode c_Mo_step 74 = .ok (.getfield 116, 3) := by decide +kernel
theorem d_Mo_step_77 : decode c_Mo_step 77 = .ok (.ifCond .ge 7, 3) := by decide +kernel
theorem d_Mo_step_80 : decode c_Mo_step 80 = .ok (.iconst 3, 1) := by decide +kernel
theorem d_Mo_step_81 : decode c_Mo_step 81 = .ok (.goto 4, 3) := by decide +kernel
theorem d_Mo_step_84 : decode c_Mo_step 84 = .ok (.iconst 1, 1) := by decide +kernel
theorem d_Mo_step_85 : decode c_Mo_step 85 = .ok (.putfield 59, 3) := by decide +kernel
theorem d_Mo_step_88 : decode c_Mo_step 88 = .ok (.iconst 0, 1) := by decide +kernel
theorem d_Mo_step_89 : decode c_Mo_step 89 = .ok (.ireturn, 1) := by decide +kernel
theorem d_Mo_step_90 : decode c_Mo_step 90 = .ok (.aload_n 0, 1) := by decide +kernel
theorem d_Mo_step_91 : decode c_Mo_step 91 = .ok (.getfield 116, 3) := by decide +kernel
theorem d_Mo_step_94 : decode c_Mo_step 94 = .ok (.invokestatic 119, 3) := by decide +kernel
theorem d_Mo_step_97 : decode c_Mo_step 97 = .ok (.ifCond .eq 22, 3) := by decide +kernel
theorem d_Mo_step_100 : decode c_Mo_step 100 = .ok (.aload_n 0, 1) := by decide +kernel
theorem d_Mo_step_101 : decode c_Mo_step 101 = .ok (.iload_n 1, 1) := by decide +kernel
theorem d_Mo_step_102 : decode c_Mo_step 102 = .ok (.aload_n 0, 1) := by decide +kernel
theorem d_Mo_step_103 : decode c_Mo_step 103 = .ok (.getfield 116, 3) := by decide +kernel
theorem d_Mo_step_106 : decode c_Mo_step 106 = .ok (.invokevirtual 155, 3) := by decide +kernel
theorem d_Mo_step_109 : decode c_Mo_step 109 = .ok (.ifCond .eq 10, 3) := by decide +kernel
theorem d_Mo_step_112 : decode c_Mo_step 112 = .ok (.aload_n 0, 1) := by decide +kernel
theorem d_Mo_step_113 : decode c_Mo_step 113 = .ok (.iconst 5, 1) := by decide +kernel
theorem d_Mo_step_114 : decode c_Mo_step 114 = .ok (.putfield 59, 3) := by decide +kernel
theorem d_Mo_step_117 : decode c_Mo_step 117 = .ok (.iconst 0, 1) := by decide +kernel
theorem d_Mo_step_118 : decode c_Mo_step 118 = .ok (.ireturn, 1) := by decide +kernel
theorem d_Mo_step_119 : decode c_Mo_step 119 = .ok (.aload_n 0, 1) := by decide +kernel
theorem d_Mo_step_120 : decode c_Mo_step 120 = .ok (.getfield 116, 3) := by decide +kernel
theorem d_Mo_step_123 : decode c_Mo_step 123 = .ok (.bipush 7, 2) := by decide +kernel
theorem d_Mo_step_125 : decode c_Mo_step 125 = .ok (.if_icmp .ne 13, 3) := by decide +kernel
theorem d_Mo_step_128 : decode c_Mo_step 128 = .ok (.aload_n 0, 1) := by decide +kernel
theorem d_Mo_step_129 : decode c_Mo_step 129 = .ok (.getfield 71, 3) := by decide +kernel
theorem d_Mo_step_132 : decode c_Mo_step 132 = .ok (.sipush 256, 3) := by decide +kernel
theorem d_Mo_step_135 : decode c_Mo_step 135 = .ok (.if_icmp .eq 19, 3) := by decide +kernel
theorem d_Mo_step_138 : decode c_Mo_step 138 = .ok (.aload_n 0, 1) := by decide +kernel
theorem d_Mo_step_139 : decode c_Mo_step 139 = .ok (.getfield 116, 3) := by decide +kernel
theorem d_Mo_step_142 : decode c_Mo_step 142 = .ok (.bipush 8, 2) := by decide +kernel
theorem d_Mo_step_144 : decode c_Mo_step 144 = .ok (.if_icmp .ne 12, 3) := by decide +kernel
theorem d_Mo_step_147 : decode c_Mo_step 147 = .ok (.aload_n 0, 1) := by decide +kernel
theorem d_Mo_step_148 : decode c_Mo_step 148 = .ok (.getfield 68, 3) := by decide +kernel
theorem d_Mo_step_151 : decode c_Mo_step 151 = .ok (.ifCond .ne 5, 3) := by decide +kernel
theorem d_Mo_step_154 : decode c_Mo_step 154 = .ok (.iconst 0, 1) := by decide +kernel
theorem d_Mo_step_155 : decode c_Mo_step 155 = .ok (.ireturn, 1) := by decide +kernel
theorem d_Mo_step_156 : decode c_Mo_step 156 = .ok (.aload_n 0, 1) := by decide +kernel
theorem d_Mo_step_157 : decode c_Mo_step 157 = .ok (.iload_n 1, 1) := by decide +kernel
theorem d_Mo_step_158 : decode c_Mo_step 158 = .ok (.invokevirtual 159, 3) := by decide +kernel
theorem d_Mo_step_161 : decode c_Mo_step 161 = .ok (.aload_n 0, 1) := by decide +kernel
theorem d_Mo_step_162 : decode c_Mo_step 162 = .ok (.invokevirtual 163, 3) := by decide +kernel
theorem d_Mo_step_165 : decode c_Mo_step 165 = .ok (.istore_n 2, 1) := by decide +kernel
theorem d_Mo_step_166 : decode c_Mo_step 166 = .ok (.aload_n 0, 1) := by decide +kernel
theorem d_Mo_step_167 : decode c_Mo_step 167 = .ok (.invokevirtual 167, 3) := by decide +kernel
theorem d_Mo_step_170 : decode c_Mo_step 170 = .ok (.ifCond .ne 21, 3) := by decide +kernel
theorem d_Mo_step_173 : decode c_Mo_step 173 = .ok (.aload_n 0, 1) := by decide +kernel
theorem d_Mo_step_174 : decode c_Mo_step 174 = .ok (.dup, 1) := by decide +kernel
theorem d_Mo_step_175 : decode c_Mo_step 175 = .ok (.getfield 77, 3) := by decide +kernel
theorem d_Mo_step_178 : decode c_Mo_step 178 = .ok (.iconst 1, 1) := by decide +kernel
theorem d_Mo_step_179 : decode c_Mo_step 179 = .ok (.iadd, 1) := by decide +kernel
theorem d_Mo_step_180 : decode c_Mo_step 180 = .ok (.putfield 77, 3) := by decide +kernel
theorem d_Mo_step_183 : decode c_Mo_step 183 = .ok (.iload_n 2, 1) := by decide +kernel
theorem d_Mo_step_184 : decode c_Mo_step 184 = .ok (.ifCond .eq 7, 3) := by decide +kernel
theorem d_Mo_step_187 : decode c_Mo_step 187 = .ok (.aload_n 0, 1) := by decide +kernel
theorem d_Mo_step_188 : decode c_Mo_step 188 = .ok (.invokevirtual 170, 3) := by decide +kernel
theorem d_Mo_step_191 : decode c_Mo_step 191 = .ok (.iload_n 2, 1) := by decide +kernel
theorem d_Mo_step_192 : decode c_Mo_step 192 = .ok (.ifCond .ne 10, 3) := by decide +kernel
theorem d_Mo_step_195 : decode c_Mo_step 195 = .ok (.aload_n 0, 1) := by decide +kernel
theorem d_Mo_step_196 : decode c_Mo_step 196 = .ok (.iconst 2, 1) := by decide +kernel
theorem d_Mo_step_197 : decode c_Mo_step 197 = .ok (.putfield 59, 3) := by decide +kernel
theorem d_Mo_step_200 : decode c_Mo_step 200 = .ok (.iconst 0, 1) := by decide +kernel
theorem d_Mo_step_201 : decode c_Mo_step 201 = .ok (.ireturn, 1) := by decide +kernel
theorem d_Mo_step_202 : decode c_Mo_step 202 = .ok (.aload_n 0, 1) := by decide +kernel
theorem d_Mo_step_203 : decode c_Mo_step 203 = .ok (.iload_n 1, 1) := by decide +kernel
theorem d_Mo_step_204 : decode c_Mo_step 204 = .ok (.invokevirtual 173, 3) := by decide +kernel
theorem d_Mo_step_207 : decode c_Mo_step 207 = .ok (.iconst 1, 1) := by decide +kernel
theorem d_Mo_step_208 : decode c_Mo_step 208 = .ok (.ireturn, 1) := by decide +kernel
theorem d_Mo_run_0 : decode c_Mo_run 0 = .ok (.aload_n 0, 1) := by decide +kernel
theorem d_Mo_run_1 : decode c_Mo_run 1 = .ok (.iload_n 1, 1) := by decide +kernel
theorem d_Mo_run_2 : decode c_Mo_run 2 = .ok (.ifCond .lt 10, 3) := by decide +kernel
theorem d_Mo_run_5 : decode c_Mo_run 5 = .ok (.iload_n 1, 1) := by decide +kernel
theorem d_Mo_run_6 : decode c_Mo_run 6 = .ok (.sipush 1000, 3) := by decide +kernel
theorem d_Mo_run_9 : decode c_Mo_run 9 = .ok (.if_icmp .le 7, 3) := by decide +kernel
theorem d_Mo_run_12 : decode c_Mo_run 12 = .ok (.iconst 1, 1) := by decide +kernel
theorem d_Mo_run_13 : decode c_Mo_run 13 = .ok (.goto 4, 3) := by decide +kernel
theorem d_Mo_run_16 : decode c_Mo_run 16 = .ok (.iconst 0, 1) := by decide +kernel
theorem d_Mo_run_17 : decode c_Mo_run 17 = .ok (.putfield 50, 3) := by decide +kernel
theorem d_Mo_run_20 : decode c_Mo_run 20 = .ok (.iconst 0, 1) := by decide +kernel
theorem d_Mo_run_21 : decode c_Mo_run 21 = .ok (.istore_n 2, 1) := by decide +kernel
theorem d_Mo_run_22 : decode c_Mo_run 22 = .ok (.aload_n 0, 1) := by decide +kernel
theorem d_Mo_run_23 : decode c_Mo_run 23 = .ok (.getfield 50, 3) := by decide +kernel
theorem d_Mo_run_26 : decode c_Mo_run 26 = .ok (.ifCond .ne 28, 3) := by decide +kernel
theorem d_Mo_run_29 : decode c_Mo_run 29 = .ok (.iload_n 2, 1) := by decide +kernel
theorem d_Mo_run_30 : decode c_Mo_run 30 = .ok (.iload_n 1, 1) := by decide +kernel
theorem d_Mo_run_31 : decode c_Mo_run 31 = .ok (.if_icmp .ge 23, 3) := by decide +kernel
theorem d_Mo_run_34 : decode c_Mo_run 34 = .ok (.aload_n 0, 1) := by decide +kernel
theorem d_Mo_run_35 : decode c_Mo_run 35 = .ok (.getfield 59, 3) := by decide +kernel
theorem d_Mo_run_38 : decode c_Mo_run 38 = .ok (.ifCond .ne 16, 3) := by decide +kernel
theorem d_Mo_run_41 : decode c_Mo_run 41 = .ok (.aload_n 0, 1) := by decide +kernel
theorem d_Mo_run_42 : decode c_Mo_run 42 = .ok (.invokevirtual 176, 3) := by decide +kernel
theorem d_Mo_run_45 : decode c_Mo_run 45 = .ok (.ifCond .eq 9, 3) := by decide +kernel
theorem d_Mo_run_48 : decode c_Mo_run 48 = .ok (.iinc 2 1, 3) := by decide +kernel
theorem d_Mo_run_51 : decode c_Mo_run 51 = .ok (.goto (-29), 3) := by decide +kernel
theorem d_Mo_run_54 : decode c_Mo_run 54 = .ok (.iload_n 2, 1) := by decide +kernel
theorem d_Mo_run_55 : decode c_Mo_run 55 = .ok (.ireturn, 1) := by decide +kernel
theorem d_Mo_both_0 : decode c_Mo_both 0 = .ok (.iload_n 1, 1) := by decide +kernel
theorem d_Mo_both_1 : decode c_Mo_both 1 = .ok (.i2l, 1) := by decide +kernel
theorem d_Mo_both_2 : decode c_Mo_both 2 = .ok (.bipush 32, 2) := by decide +kernel
theorem d_Mo_both_4 : decode c_Mo_both 4 = .ok (.lshl, 1) := by decide +kernel
theorem d_Mo_both_5 : decode c_Mo_both 5 = .ok (.iload_n 0, 1) := by decide +kernel
theorem d_Mo_both_6 : decode c_Mo_both 6 = .ok (.i2l, 1) := by decide +kernel
theorem d_Mo_both_7 : decode c_Mo_both 7 = .ok (.ldc2_w 94, 3) := by decide +kernel
theorem d_Mo_both_10 : decode c_Mo_both 10 = .ok (.land, 1) := by decide +kernel
theorem d_Mo_both_11 : decode c_Mo_both 11 = .ok (.lor, 1) := by decide +kernel
theorem d_Mo_both_12 : decode c_Mo_both 12 = .ok (.lreturn, 1) := by decide +kernel
theorem d_Mo_register_0 : decode c_Mo_register 0 = .ok (.aload_n 0, 1) := by decide +kernel
theorem d_Mo_register_1 : decode c_Mo_register 1 = .ok (.iload_n 1, 1) := by decide +kernel
theorem d_Mo_register_2 : decode c_Mo_register 2 = .ok (.ifCond .lt 9, 3) := by decide +kernel
theorem d_Mo_register_5 : decode c_Mo_register 5 = .ok (.iload_n 1, 1) := by decide +kernel
theorem d_Mo_register_6 : decode c_Mo_register 6 = .ok (.bipush 31, 2) := by decide +kernel
theorem d_Mo_register_8 : decode c_Mo_register 8 = .ok (.if_icmp .le 7, 3) := by decide +kernel
theorem d_Mo_register_11 : decode c_Mo_register 11 = .ok (.iconst 1, 1) := by decide +kernel
theorem d_Mo_register_12 : decode c_Mo_register 12 = .ok (.goto 4, 3) := by decide +kernel
theorem d_Mo_register_15 : decode c_Mo_register 15 = .ok (.iconst 0, 1) := by decide +kernel
theorem d_Mo_register_16 : decode c_Mo_register 16 = .ok (.putfield 50, 3) := by decide +kernel
theorem d_Mo_register_19 : decode c_Mo_register 19 = .ok (.aload_n 0, 1) := by decide +kernel
theorem d_Mo_register_20 : decode c_Mo_register 20 = .ok (.getfield 50, 3) := by decide +kernel
theorem d_Mo_register_23 : decode c_Mo_register 23 = .ok (.ifCond .le 7, 3) := by decide +kernel
theorem d_Mo_register_26 : decode c_Mo_register 26 = .ok (.lconst 0, 1) := by decide +kernel
theorem d_Mo_register_27 : decode c_Mo_register 27 = .ok (.goto 18, 3) := by decide +kernel
theorem d_Mo_register_30 : decode c_Mo_register 30 = .ok (.aload_n 0, 1) := by decide +kernel
theorem d_Mo_register_31 : decode c_Mo_register 31 = .ok (.getfield 20, 3) := by decide +kernel
theorem d_Mo_register_34 : decode c_Mo_register 34 = .ok (.iload_n 1, 1) := by decide +kernel
theorem d_Mo_register_35 : decode c_Mo_register 35 = .ok (.iaload, 1) := by decide +kernel
theorem d_Mo_register_36 : decode c_Mo_register 36 = .ok (.aload_n 0, 1) := by decide +kernel
theorem d_Mo_register_37 : decode c_Mo_register 37 = .ok (.getfield 23, 3) := by decide +kernel
theorem d_Mo_register_40 : decode c_Mo_register 40 = .ok (.iload_n 1, 1) := by decide +kernel
theorem d_Mo_register_41 : decode c_Mo_register 41 = .ok (.iaload, 1) := by decide +kernel
theorem d_Mo_register_42 : decode c_Mo_register 42 = .ok (.invokestatic 179, 3) := by decide +kernel
theorem d_Mo_register_45 : decode c_Mo_register 45 = .ok (.lreturn, 1) := by decide +kernel
theorem d_Mo_memory_0 : decode c_Mo_memory 0 = .ok (.aload_n 0, 1) := by decide +kernel
theorem d_Mo_memory_1 : decode c_Mo_memory 1 = .ok (.iload_n 1, 1) := by decide +kernel
theorem d_Mo_memory_2 : decode c_Mo_memory 2 = .ok (.ifCond .lt 9, 3) := by decide +kernel
theorem d_Mo_memory_5 : decode c_Mo_memory 5 = .ok (.iload_n 1, 1) := by decide +kernel
theorem d_Mo_memory_6 : decode c_Mo_memory 6 = .ok (.bipush 63, 2) := by decide +kernel
theorem d_Mo_memory_8 : decode c_Mo_memory 8 = .ok (.if_icmp .le 7, 3) := by decide +kernel
theorem d_Mo_memory_11 : decode c_Mo_memory 11 = .ok (.iconst 1, 1) := by decide +kernel
theorem d_Mo_memory_12 : decode c_Mo_memory 12 = .ok (.goto 4, 3) := by decide +kernel
theorem d_Mo_memory_15 : decode c_Mo_memory 15 = .ok (.iconst 0, 1) := by decide +kernel
theorem d_Mo_memory_16 : decode c_Mo_memory 16 = .ok (.putfield 50, 3) := by decide +kernel
theorem d_Mo_memory_19 : decode c_Mo_memory 19 = .ok (.aload_n 0, 1) := by decide +kernel
theorem d_Mo_memory_20 : decode c_Mo_memory 20 = .ok (.getfield 50, 3) := by decide +kernel
theorem d_Mo_memory_23 : decode c_Mo_memory 23 = .ok (.ifCond .le 7, 3) := by decide +kernel
theorem d_Mo_memory_26 : decode c_Mo_memory 26 = .ok (.lconst 0, 1) := by decide +kernel
theorem d_Mo_memory_27 : decode c_Mo_memory 27 = .ok (.goto 18, 3) := by decide +kernel
theorem d_Mo_memory_30 : decode c_Mo_memory 30 = .ok (.aload_n 0, 1) := by decide +kernel
theorem d_Mo_memory_31 : decode c_Mo_memory 31 = .ok (.getfield 26, 3) := by decide +kernel
theorem d_Mo_memory_34 : decode c_Mo_memory 34 = .ok (.iload_n 1, 1) := by decide +kernel
theorem d_Mo_memory_35 : decode c_Mo_memory 35 = .ok (.iaload, 1) := by decide +kernel
theorem d_Mo_memory_36 : decode c_Mo_memory 36 = .ok (.aload_n 0, 1) := by decide +kernel
theorem d_Mo_memory_37 : decode c_Mo_memory 37 = .ok (.getfield 29, 3) := by decide +kernel
theorem d_Mo_memory_40 : decode c_Mo_memory 40 = .ok (.iload_n 1, 1) := by decide +kernel
theorem d_Mo_memory_41 : decode c_Mo_memory 41 = .ok (.iaload, 1) := by decide +kernel
theorem d_Mo_memory_42 : decode c_Mo_memory 42 = .ok (.invokestatic 179, 3) := by decide +kernel
theorem d_Mo_memory_45 : decode c_Mo_memory 45 = .ok (.lreturn, 1) := by decide +kernel
theorem d_Mo_output_0 : decode c_Mo_output 0 = .ok (.aload_n 0, 1) := by decide +kernel
theorem d_Mo_output_1 : decode c_Mo_output 1 = .ok (.iload_n 1, 1) := by decide +kernel
theorem d_Mo_output_2 : decode c_Mo_output 2 = .ok (.ifCond .lt 11, 3) := by decide +kernel
theorem d_Mo_output_5 : decode c_Mo_output 5 = .ok (.iload_n 1, 1) := by decide +kernel
theorem d_Mo_output_6 : decode c_Mo_output 6 = .ok (.aload_n 0, 1) := by decide +kernel
theorem d_Mo_output_7 : decode c_Mo_output 7 = .ok (.getfield 71, 3) := by decide +kernel
theorem d_Mo_output_10 : decode c_Mo_output 10 = .ok (.if_icmp .lt 7, 3) := by decide +kernel
theorem d_Mo_output_13 : decode c_Mo_output 13 = .ok (.iconst 1, 1) := by decide +kernel
theorem d_Mo_output_14 : decode c_Mo_output 14 = .ok (.goto 4, 3) := by decide +kernel
theorem d_Mo_output_17 : decode c_Mo_output 17 = .ok (.iconst 0, 1) := by decide +kernel
theorem d_Mo_output_18 : decode c_Mo_output 18 = .ok (.putfield 50, 3) := by decide +kernel
theorem d_Mo_output_21 : decode c_Mo_output 21 = .ok (.aload_n 0, 1) := by decide +kernel
theorem d_Mo_output_22 : decode c_Mo_output 22 = .ok (.getfield 50, 3) := by decide +kernel
theorem d_Mo_output_25 : decode c_Mo_output 25 = .ok (.ifCond .le 7, 3) := by decide +kernel
theorem d_Mo_output_28 : decode c_Mo_output 28 = .ok (.lconst 0, 1) := by decide +kernel
theorem d_Mo_output_29 : decode c_Mo_output 29 = .ok (.goto 18, 3) := by decide +kernel
theorem d_Mo_output_32 : decode c_Mo_output 32 = .ok (.aload_n 0, 1) := by decide +kernel
theorem d_Mo_output_33 : decode c_Mo_output 33 = .ok (.getfield 38, 3) := by decide +kernel
theorem d_Mo_output_36 : decode c_Mo_output 36 = .ok (.iload_n 1, 1) := by decide +kernel
theorem d_Mo_output_37 : decode c_Mo_output 37 = .ok (.iaload, 1) := by decide +kernel
theorem d_Mo_output_38 : decode c_Mo_output 38 = .ok (.aload_n 0, 1) := by decide +kernel
theorem d_Mo_output_39 : decode c_Mo_output 39 = .ok (.getfield 41, 3) := by decide +kernel
theorem d_Mo_output_42 : decode c_Mo_output 42 = .ok (.iload_n 1, 1) := by decide +kernel
theorem d_Mo_output_43 : decode c_Mo_output 43 = .ok (.iaload, 1) := by decide +kernel
theorem d_Mo_output_44 : decode c_Mo_output 44 = .ok (.invokestatic 179, 3) := by decide +kernel
theorem d_Mo_output_47 : decode c_Mo_output 47 = .ok (.lreturn, 1) := by decide +kernel
theorem d_Mo_told_0 : decode c_Mo_told 0 = .ok (.aload_n 0, 1) := by decide +kernel
theorem d_Mo_told_1 : decode c_Mo_told 1 = .ok (.iload_n 1, 1) := by decide +kernel
theorem d_Mo_told_2 : decode c_Mo_told 2 = .ok (.ifCond .lt 9, 3) := by decide +kernel
theorem d_Mo_told_5 : decode c_Mo_told 5 = .ok (.iload_n 1, 1) := by decide +kernel
theorem d_Mo_told_6 : decode c_Mo_told 6 = .ok (.bipush 8, 2) := by decide +kernel
theorem d_Mo_told_8 : decode c_Mo_told 8 = .ok (.if_icmp .le 7, 3) := by decide +kernel
theorem d_Mo_told_11 : decode c_Mo_told 11 = .ok (.iconst 1, 1) := by decide +kernel
theorem d_Mo_told_12 : decode c_Mo_told 12 = .ok (.goto 4, 3) := by decide +kernel
theorem d_Mo_told_15 : decode c_Mo_told 15 = .ok (.iconst 0, 1) := by decide +kernel
theorem d_Mo_told_16 : decode c_Mo_told 16 = .ok (.putfield 50, 3) := by decide +kernel
theorem d_Mo_told_19 : decode c_Mo_told 19 = .ok (.aload_n 0, 1) := by decide +kernel
theorem d_Mo_told_20 : decode c_Mo_told 20 = .ok (.getfield 50, 3) := by decide +kernel
theorem d_Mo_told_23 : decode c_Mo_told 23 = .ok (.ifCond .le 5, 3) := by decide +kernel
theorem d_Mo_told_26 : decode c_Mo_told 26 = .ok (.iconst 0, 1) := by decide +kernel
theorem d_Mo_told_27 : decode c_Mo_told 27 = .ok (.ireturn, 1) := by decide +kernel
theorem d_Mo_told_28 : decode c_Mo_told 28 = .ok (.iload_n 1, 1) := by decide +kernel
theorem d_Mo_told_29 : decode c_Mo_told 29 = .ok (.tableswitch 87 0 7 #[47, 52, 57, 62, 67, 72, 77, 82], 47) := by decide +kernel
theorem d_Mo_told_76 : decode c_Mo_told 76 = .ok (.aload_n 0, 1) := by decide +kernel
theorem d_Mo_told_77 : decode c_Mo_told 77 = .ok (.getfield 59, 3) := by decide +kernel
theorem d_Mo_told_80 : decode c_Mo_told 80 = .ok (.ireturn, 1) := by decide +kernel
theorem d_Mo_told_81 : decode c_Mo_told 81 = .ok (.aload_n 0, 1) := by decide +kernel
theorem d_Mo_told_82 : decode c_Mo_told 82 = .ok (.getfield 62, 3) := by decide +kernel
theorem d_Mo_told_85 : decode c_Mo_told 85 = .ok (.ireturn, 1) := by decide +kernel
theorem d_Mo_told_86 : decode c_Mo_told 86 = .ok (.aload_n 0, 1) := by decide +kernel
theorem d_Mo_told_87 : decode c_Mo_told 87 = .ok (.getfield 65, 3) := by decide +kernel
theorem d_Mo_told_90 : decode c_Mo_told 90 = .ok (.ireturn, 1) := by decide +kernel
theorem d_Mo_told_91 : decode c_Mo_told 91 = .ok (.aload_n 0, 1) := by decide +kernel
theorem d_Mo_told_92 : decode c_Mo_told 92 = .ok (.getfield 74, 3) := by decide +kernel
theorem d_Mo_told_95 : decode c_Mo_told 95 = .ok (.ireturn, 1) := by decide +kernel
theorem d_Mo_told_96 : decode c_Mo_told 96 = .ok (.aload_n 0, 1) := by decide +kernel
theorem d_Mo_told_97 : decode c_Mo_told 97 = .ok (.getfield 77, 3) := by decide +kernel
theorem d_Mo_told_100 : decode c_Mo_told 100 = .ok (.ireturn, 1) := by decide +kernel
theorem d_Mo_told_101 : decode c_Mo_told 101 = .ok (.aload_n 0, 1) := by decide +kernel
theorem d_Mo_told_102 : decode c_Mo_told 102 = .ok (.getfield 80, 3) := by decide +kernel
theorem d_Mo_told_105 : decode c_Mo_told 105 = .ok (.ireturn, 1) := by decide +kernel
theorem d_Mo_told_106 : decode c_Mo_told 106 = .ok (.aload_n 0, 1) := by decide +kernel
theorem d_Mo_told_107 : decode c_Mo_told 107 = .ok (.getfield 71, 3) := by decide +kernel
theorem d_Mo_told_110 : decode c_Mo_told 110 = .ok (.ireturn, 1) := by decide +kernel
theorem d_Mo_told_111 : decode c_Mo_told 111 = .ok (.aload_n 0, 1) := by decide +kernel
theorem d_Mo_told_112 : decode c_Mo_told 112 = .ok (.getfield 68, 3) := by decide +kernel
theorem d_Mo_told_115 : decode c_Mo_told 115 = .ok (.ireturn, 1) := by decide +kernel
theorem d_Mo_told_116 : decode c_Mo_told 116 = .ok (.iconst 0, 1) := by decide +kernel
theorem d_Mo_told_117 : decode c_Mo_told 117 = .ok (.ireturn, 1) := by decide +kernel
theorem d_Ba_init_0 : decode c_Ba_init 0 = .ok (.aload_n 0, 1) := by decide +kernel
theorem d_Ba_init_1 : decode c_Ba_init 1 = .ok (.invokespecial 1, 3) := by decide +kernel
theorem d_Ba_init_4 : decode c_Ba_init 4 = .ok (.aload_n 0, 1) := by decide +kernel
theorem d_Ba_init_5 : decode c_Ba_init 5 = .ok (.iload_n 1, 1) := by decide +kernel
theorem d_Ba_init_6 : decode c_Ba_init 6 = .ok (.newarray .int, 2) := by decide +kernel
theorem d_Ba_init_8 : decode c_Ba_init 8 = .ok (.putfield 7, 3) := by decide +kernel
theorem d_Ba_init_11 : decode c_Ba_init 11 = .ok (.aload_n 0, 1) := by decide +kernel
theorem d_Ba_init_12 : decode c_Ba_init 12 = .ok (.iload_n 1, 1) := by decide +kernel
theorem d_Ba_init_13 : decode c_Ba_init 13 = .ok (.newarray .int, 2) := by decide +kernel
theorem d_Ba_init_15 : decode c_Ba_init 15 = .ok (.putfield 13, 3) := by decide +kernel
theorem d_Ba_init_18 : decode c_Ba_init 18 = .ok (.return_, 1) := by decide +kernel
theorem d_Ba_forget_0 : decode c_Ba_forget 0 = .ok (.aload_n 0, 1) := by decide +kernel
theorem d_Ba_forget_1 : decode c_Ba_forget 1 = .ok (.getfield 7, 3) := by decide +kernel
theorem d_Ba_forget_4 : decode c_Ba_forget 4 = .ok (.iconst 0, 1) := by decide +kernel
theorem d_Ba_forget_5 : decode c_Ba_forget 5 = .ok (.invokestatic 16, 3) := by decide +kernel
theorem d_Ba_forget_8 : decode c_Ba_forget 8 = .ok (.aload_n 0, 1) := by decide +kernel
theorem d_Ba_forget_9 : decode c_Ba_forget 9 = .ok (.getfield 13, 3) := by decide +kernel
theorem d_Ba_forget_12 : decode c_Ba_forget 12 = .ok (.iconst 0, 1) := by decide +kernel
theorem d_Ba_forget_13 : decode c_Ba_forget 13 = .ok (.invokestatic 16, 3) := by decide +kernel
theorem d_Ba_forget_16 : decode c_Ba_forget 16 = .ok (.return_, 1) := by decide +kernel
theorem d_Ba_put_0 : decode c_Ba_put 0 = .ok (.aload_n 0, 1) := by decide +kernel
theorem d_Ba_put_1 : decode c_Ba_put 1 = .ok (.getfield 7, 3) := by decide +kernel
theorem d_Ba_put_4 : decode c_Ba_put 4 = .ok (.iload_n 1, 1) := by decide +kernel
theorem d_Ba_put_5 : decode c_Ba_put 5 = .ok (.iload_n 2, 1) := by decide +kernel
theorem d_Ba_put_6 : decode c_Ba_put 6 = .ok (.iastore, 1) := by decide +kernel
theorem d_Ba_put_7 : decode c_Ba_put 7 = .ok (.aload_n 0, 1) := by decide +kernel
theorem d_Ba_put_8 : decode c_Ba_put 8 = .ok (.getfield 13, 3) := by decide +kernel
theorem d_Ba_put_11 : decode c_Ba_put 11 = .ok (.iload_n 1, 1) := by decide +kernel
theorem d_Ba_put_12 : decode c_Ba_put 12 = .ok (.iload_n 3, 1) := by decide +kernel
theorem d_Ba_put_13 : decode c_Ba_put 13 = .ok (.iastore, 1) := by decide +kernel
theorem d_Ba_put_14 : decode c_Ba_put 14 = .ok (.return_, 1) := by decide +kernel
theorem d_Ba_number_0 : decode c_Ba_number 0 = .ok (.aload_n 0, 1) := by decide +kernel
theorem d_Ba_number_1 : decode c_Ba_number 1 = .ok (.getfield 7, 3) := by decide +kernel
theorem d_Ba_number_4 : decode c_Ba_number 4 = .ok (.iload_n 1, 1) := by decide +kernel
theorem d_Ba_number_5 : decode c_Ba_number 5 = .ok (.iaload, 1) := by decide +kernel
theorem d_Ba_number_6 : decode c_Ba_number 6 = .ok (.ireturn, 1) := by decide +kernel
theorem d_Ba_label_0 : decode c_Ba_label 0 = .ok (.aload_n 0, 1) := by decide +kernel
theorem d_Ba_label_1 : decode c_Ba_label 1 = .ok (.getfield 13, 3) := by decide +kernel
theorem d_Ba_label_4 : decode c_Ba_label 4 = .ok (.iload_n 1, 1) := by decide +kernel
theorem d_Ba_label_5 : decode c_Ba_label 5 = .ok (.iaload, 1) := by decide +kernel
theorem d_Ba_label_6 : decode c_Ba_label 6 = .ok (.ireturn, 1) := by decide +kernel
theorem d_Ba_pair_0 : decode c_Ba_pair 0 = .ok (.aload_n 0, 1) := by decide +kernel
theorem d_Ba_pair_1 : decode c_Ba_pair 1 = .ok (.getfield 7, 3) := by decide +kernel
theorem d_Ba_pair_4 : decode c_Ba_pair 4 = .ok (.iload_n 1, 1) := by decide +kernel
theorem d_Ba_pair_5 : decode c_Ba_pair 5 = .ok (.iaload, 1) := by decide +kernel
theorem d_Ba_pair_6 : decode c_Ba_pair 6 = .ok (.aload_n 0, 1) := by decide +kernel
theorem d_Ba_pair_7 : decode c_Ba_pair 7 = .ok (.getfield 13, 3) := by decide +kernel
theorem d_Ba_pair_10 : decode c_Ba_pair 10 = .ok (.iload_n 1, 1) := by decide +kernel
theorem d_Ba_pair_11 : decode c_Ba_pair 11 = .ok (.iaload, 1) := by decide +kernel
theorem d_Ba_pair_12 : decode c_Ba_pair 12 = .ok (.invokestatic 22, 3) := by decide +kernel
theorem d_Ba_pair_15 : decode c_Ba_pair 15 = .ok (.lreturn, 1) := by decide +kernel
theorem d_Cd_codeOf_0 : decode c_Cd_codeOf 0 = .ok (.iload_n 0, 1) := by decide +kernel
theorem d_Cd_codeOf_1 : decode c_Cd_codeOf 1 = .ok (.bipush 127, 2) := by decide +kernel
theorem d_Cd_codeOf_3 : decode c_Cd_codeOf 3 = .ok (.iand, 1) := by decide +kernel
theorem d_Cd_codeOf_4 : decode c_Cd_codeOf 4 = .ok (.ireturn, 1) := by decide +kernel
theorem d_Cd_fieldD_0 : decode c_Cd_fieldD 0 = .ok (.iload_n 0, 1) := by decide +kernel
theorem d_Cd_fieldD_1 : decode c_Cd_fieldD 1 = .ok (.bipush 7, 2) := by decide +kernel
theorem d_Cd_fieldD_3 : decode c_Cd_fieldD 3 = .ok (.iushr, 1) := by decide +kernel
theorem d_Cd_fieldD_4 : decode c_Cd_fieldD 4 = .ok (.bipush 31, 2) := by decide +kernel
theorem d_Cd_fieldD_6 : decode c_Cd_fieldD 6 = .ok (.iand, 1) := by decide +kernel
theorem d_Cd_fieldD_7 : decode c_Cd_fieldD 7 = .ok (.ireturn, 1) := by decide +kernel
theorem d_Cd_fieldF_0 : decode c_Cd_fieldF 0 = .ok (.iload_n 0, 1) := by decide +kernel
theorem d_Cd_fieldF_1 : decode c_Cd_fieldF 1 = .ok (.bipush 12, 2) := by decide +kernel
theorem d_Cd_fieldF_3 : decode c_Cd_fieldF 3 = .ok (.iushr, 1) := by decide +kernel
theorem d_Cd_fieldF_4 : decode c_Cd_fieldF 4 = .ok (.bipush 7, 2) := by decide +kernel
theorem d_Cd_fieldF_6 : decode c_Cd_fieldF 6 = .ok (.iand, 1) := by decide +kernel
theorem d_Cd_fieldF_7 : decode c_Cd_fieldF 7 = .ok (.ireturn, 1) := by decide +kernel
theorem d_Cd_fieldA_0 : decode c_Cd_fieldA 0 = .ok (.iload_n 0, 1) := by decide +kernel
theorem d_Cd_fieldA_1 : decode c_Cd_fieldA 1 = .ok (.bipush 15, 2) := by decide +kernel
theorem d_Cd_fieldA_3 : decode c_Cd_fieldA 3 = .ok (.iushr, 1) := by decide +kernel
theorem d_Cd_fieldA_4 : decode c_Cd_fieldA 4 = .ok (.bipush 31, 2) := by decide +kernel
theorem d_Cd_fieldA_6 : decode c_Cd_fieldA 6 = .ok (.iand, 1) := by decide +kernel
theorem d_Cd_fieldA_7 : decode c_Cd_fieldA 7 = .ok (.ireturn, 1) := by decide +kernel
theorem d_Cd_fieldB_0 : decode c_Cd_fieldB 0 = .ok (.iload_n 0, 1) := by decide +kernel
theorem d_Cd_fieldB_1 : decode c_Cd_fieldB 1 = .ok (.bipush 20, 2) := by decide +kernel
theorem d_Cd_fieldB_3 : decode c_Cd_fieldB 3 = .ok (.iushr, 1) := by decide +kernel
theorem d_Cd_fieldB_4 : decode c_Cd_fieldB 4 = .ok (.bipush 31, 2) := by decide +kernel
theorem d_Cd_fieldB_6 : decode c_Cd_fieldB 6 = .ok (.iand, 1) := by decide +kernel
theorem d_Cd_fieldB_7 : decode c_Cd_fieldB 7 = .ok (.ireturn, 1) := by decide +kernel
theorem d_Cd_fieldG_0 : decode c_Cd_fieldG 0 = .ok (.iload_n 0, 1) := by decide +kernel
theorem d_Cd_fieldG_1 : decode c_Cd_fieldG 1 = .ok (.bipush 25, 2) := by decide +kernel
theorem d_Cd_fieldG_3 : decode c_Cd_fieldG 3 = .ok (.iushr, 1) := by decide +kernel
theorem d_Cd_fieldG_4 : decode c_Cd_fieldG 4 = .ok (.ireturn, 1) := by decide +kernel
theorem d_Cd_immediate_0 : decode c_Cd_immediate 0 = .ok (.iload_n 0, 1) := by decide +kernel
theorem d_Cd_immediate_1 : decode c_Cd_immediate 1 = .ok (.bipush 20, 2) := by decide +kernel
theorem d_Cd_immediate_3 : decode c_Cd_immediate 3 = .ok (.ishr, 1) := by decide +kernel
theorem d_Cd_immediate_4 : decode c_Cd_immediate 4 = .ok (.ireturn, 1) := by decide +kernel
theorem d_Cd_upperPart_0 : decode c_Cd_upperPart 0 = .ok (.iload_n 0, 1) := by decide +kernel
theorem d_Cd_upperPart_1 : decode c_Cd_upperPart 1 = .ok (.sipush (-4096), 3) := by decide +kernel
theorem d_Cd_upperPart_4 : decode c_Cd_upperPart 4 = .ok (.iand, 1) := by decide +kernel
theorem d_Cd_upperPart_5 : decode c_Cd_upperPart 5 = .ok (.ireturn, 1) := by decide +kernel
theorem d_Cd_storeOffset_0 : decode c_Cd_storeOffset 0 = .ok (.iload_n 0, 1) := by decide +kernel
theorem d_Cd_storeOffset_1 : decode c_Cd_storeOffset 1 = .ok (.bipush 25, 2) := by decide +kernel
theorem d_Cd_storeOffset_3 : decode c_Cd_storeOffset 3 = .ok (.ishr, 1) := by decide +kernel
theorem d_Cd_storeOffset_4 : decode c_Cd_storeOffset 4 = .ok (.iconst 5, 1) := by decide +kernel
theorem d_Cd_storeOffset_5 : decode c_Cd_storeOffset 5 = .ok (.ishl, 1) := by decide +kernel
theorem d_Cd_storeOffset_6 : decode c_Cd_storeOffset 6 = .ok (.iload_n 0, 1) := by decide +kernel
theorem d_Cd_storeOffset_7 : decode c_Cd_storeOffset 7 = .ok (.invokestatic 7, 3) := by decide +kernel
theorem d_Cd_storeOffset_10 : decode c_Cd_storeOffset 10 = .ok (.ior, 1) := by decide +kernel
theorem d_Cd_storeOffset_11 : decode c_Cd_storeOffset 11 = .ok (.ireturn, 1) := by decide +kernel
theorem d_Cd_branchOffset_0 : decode c_Cd_branchOffset 0 = .ok (.iload_n 0, 1) := by decide +kernel
theorem d_Cd_branchOffset_1 : decode c_Cd_branchOffset 1 = .ok (.bipush 31, 2) := by decide +kernel
theorem d_Cd_branchOffset_3 : decode c_Cd_branchOffset 3 = .ok (.ishr, 1) := by decide +kernel
theorem d_Cd_branchOffset_4 : decode c_Cd_branchOffset 4 = .ok (.bipush 12, 2) := by decide +kernel
theorem d_Cd_branchOffset_6 : decode c_Cd_branchOffset 6 = .ok (.ishl, 1) := by decide +kernel
theorem d_Cd_branchOffset_7 : decode c_Cd_branchOffset 7 = .ok (.iload_n 0, 1) := by decide +kernel
theorem d_Cd_branchOffset_8 : decode c_Cd_branchOffset 8 = .ok (.bipush 7, 2) := by decide +kernel
theorem d_Cd_branchOffset_10 : decode c_Cd_branchOffset 10 = .ok (.iushr, 1) := by decide +kernel
theorem d_Cd_branchOffset_11 : decode c_Cd_branchOffset 11 = .ok (.iconst 1, 1) := by decide +kernel
theorem d_Cd_branchOffset_12 : decode c_Cd_branchOffset 12 = .ok (.iand, 1) := by decide +kernel
theorem d_Cd_branchOffset_13 : decode c_Cd_branchOffset 13 = .ok (.bipush 11, 2) := by decide +kernel
theorem d_Cd_branchOffset_15 : decode c_Cd_branchOffset 15 = .ok (.ishl, 1) := by decide +kernel
theorem d_Cd_branchOffset_16 : decode c_Cd_branchOffset 16 = .ok (.ior, 1) := by decide +kernel
theorem d_Cd_branchOffset_17 : decode c_Cd_branchOffset 17 = .ok (.iload_n 0, 1) := by decide +kernel
theorem d_Cd_branchOffset_18 : decode c_Cd_branchOffset 18 = .ok (.bipush 25, 2) := by decide +kernel
theorem d_Cd_branchOffset_20 : decode c_Cd_branchOffset 20 = .ok (.iushr, 1) := by decide +kernel
theorem d_Cd_branchOffset_21 : decode c_Cd_branchOffset 21 = .ok (.bipush 63, 2) := by decide +kernel
theorem d_Cd_branchOffset_23 : decode c_Cd_branchOffset 23 = .ok (.iand, 1) := by decide +kernel
theorem d_Cd_branchOffset_24 : decode c_Cd_branchOffset 24 = .ok (.iconst 5, 1) := by decide +kernel
theorem d_Cd_branchOffset_25 : decode c_Cd_branchOffset 25 = .ok (.ishl, 1) := by decide +kernel
theorem d_Cd_branchOffset_26 : decode c_Cd_branchOffset 26 = .ok (.ior, 1) := by decide +kernel
theorem d_Cd_branchOffset_27 : decode c_Cd_branchOffset 27 = .ok (.iload_n 0, 1) := by decide +kernel
theorem d_Cd_branchOffset_28 : decode c_Cd_branchOffset 28 = .ok (.bipush 8, 2) := by decide +kernel
theorem d_Cd_branchOffset_30 : decode c_Cd_branchOffset 30 = .ok (.iushr, 1) := by decide +kernel
theorem d_Cd_branchOffset_31 : decode c_Cd_branchOffset 31 = .ok (.bipush 15, 2) := by decide +kernel
theorem d_Cd_branchOffset_33 : decode c_Cd_branchOffset 33 = .ok (.iand, 1) := by decide +kernel
theorem d_Cd_branchOffset_34 : decode c_Cd_branchOffset 34 = .ok (.iconst 1, 1) := by decide +kernel
theorem d_Cd_branchOffset_35 : decode c_Cd_branchOffset 35 = .ok (.ishl, 1) := by decide +kernel
theorem d_Cd_branchOffset_36 : decode c_Cd_branchOffset 36 = .ok (.ior, 1) := by decide +kernel
theorem d_Cd_branchOffset_37 : decode c_Cd_branchOffset 37 = .ok (.ireturn, 1) := by decide +kernel
theorem d_Cd_callOffset_0 : decode c_Cd_callOffset 0 = .ok (.iload_n 0, 1) := by decide +kernel
theorem d_Cd_callOffset_1 : decode c_Cd_callOffset 1 = .ok (.bipush 31, 2) := by decide +kernel
theorem d_Cd_callOffset_3 : decode c_Cd_callOffset 3 = .ok (.ishr, 1) := by decide +kernel
theorem d_Cd_callOffset_4 : decode c_Cd_callOffset 4 = .ok (.bipush 20, 2) := by decide +kernel
theorem d_Cd_callOffset_6 : decode c_Cd_callOffset 6 = .ok (.ishl, 1) := by decide +kernel
theorem d_Cd_callOffset_7 : decode c_Cd_callOffset 7 = .ok (.iload_n 0, 1) := by decide +kernel
theorem d_Cd_callOffset_8 : decode c_Cd_callOffset 8 = .ok (.bipush 12, 2) := by decide +kernel
theorem d_Cd_callOffset_10 : decode c_Cd_callOffset 10 = .ok (.iushr, 1) := by decide +kernel
theorem d_Cd_callOffset_11 : decode c_Cd_callOffset 11 = .ok (.sipush 255, 3) := by decide +kernel
theorem d_Cd_callOffset_14 : decode c_Cd_callOffset 14 = .ok (.iand, 1) := by decide +kernel
theorem d_Cd_callOffset_15 : decode c_Cd_callOffset 15 = .ok (.bipush 12, 2) := by decide +kernel
theorem d_Cd_callOffset_17 : decode c_Cd_callOffset 17 = .ok (.ishl, 1) := by decide +kernel
theorem d_Cd_callOffset_18 : decode c_Cd_callOffset 18 = .ok (.ior, 1) := by decide +kernel
theorem d_Cd_callOffset_19 : decode c_Cd_callOffset 19 = .ok (.iload_n 0, 1) := by decide +kernel
theorem d_Cd_callOffset_20 : decode c_Cd_callOffset 20 = .ok (.bipush 20, 2) := by decide +kernel
theorem d_Cd_callOffset_22 : decode c_Cd_callOffset 22 = .ok (.iushr, 1) := by decide +kernel
theorem d_Cd_callOffset_23 : decode c_Cd_callOffset 23 = .ok (.iconst 1, 1) := by decide +kernel
theorem d_Cd_callOffset_24 : decode c_Cd_callOffset 24 = .ok (.iand, 1) := by decide +kernel
theorem d_Cd_callOffset_25 : decode c_Cd_callOffset 25 = .ok (.bipush 11, 2) := by decide +kernel
theorem d_Cd_callOffset_27 : decode c_Cd_callOffset 27 = .ok (.ishl, 1) := by decide +kernel
theorem d_Cd_callOffset_28 : decode c_Cd_callOffset 28 = .ok (.ior, 1) := by decide +kernel
theorem d_Cd_callOffset_29 : decode c_Cd_callOffset 29 = .ok (.iload_n 0, 1) := by decide +kernel
theorem d_Cd_callOffset_30 : decode c_Cd_callOffset 30 = .ok (.bipush 21, 2) := by decide +kernel
theorem d_Cd_callOffset_32 : decode c_Cd_callOffset 32 = .ok (.iushr, 1) := by decide +kernel
theorem d_Cd_callOffset_33 : decode c_Cd_callOffset 33 = .ok (.sipush 1023, 3) := by decide +kernel
theorem d_Cd_callOffset_36 : decode c_Cd_callOffset 36 = .ok (.iand, 1) := by decide +kernel
theorem d_Cd_callOffset_37 : decode c_Cd_callOffset 37 = .ok (.iconst 1, 1) := by decide +kernel
theorem d_Cd_callOffset_38 : decode c_Cd_callOffset 38 = .ok (.ishl, 1) := by decide +kernel
theorem d_Cd_callOffset_39 : decode c_Cd_callOffset 39 = .ok (.ior, 1) := by decide +kernel
theorem d_Cd_callOffset_40 : decode c_Cd_callOffset 40 = .ok (.ireturn, 1) := by decide +kernel
theorem d_Cd_groupOf_0 : decode c_Cd_groupOf 0 = .ok (.iload_n 0, 1) := by decide +kernel
theorem d_Cd_groupOf_1 : decode c_Cd_groupOf 1 = .ok (.invokestatic 13, 3) := by decide +kernel
theorem d_Cd_groupOf_4 : decode c_Cd_groupOf 4 = .ok (.istore_n 1, 1) := by decide +kernel
theorem d_Cd_groupOf_5 : decode c_Cd_groupOf 5 = .ok (.iload_n 0, 1) := by decide +kernel
theorem d_Cd_groupOf_6 : decode c_Cd_groupOf 6 = .ok (.invokestatic 16, 3) := by decide +kernel
theorem d_Cd_groupOf_9 : decode c_Cd_groupOf 9 = .ok (.lookupswitch 233 #[(3, 129), (11, 201), (19, 109), (23, 127), (35, 150), (51, 91), (55, 127), (99, 170), (103, 189), (111, 187)], 91) := by decide +kernel
theorem d_Cd_groupOf_100 : decode c_Cd_groupOf 100 = .ok (.iload_n 1, 1) := by decide +kernel
theorem d_Cd_groupOf_101 : decode c_Cd_groupOf 101 = .ok (.iload_n 0, 1) := by decide +kernel
theorem d_Cd_groupOf_102 : decode c_Cd_groupOf 102 = .ok (.invokestatic 19, 3) := by decide +kernel
theorem d_Cd_groupOf_105 : decode c_Cd_groupOf 105 = .ok (.invokestatic 22, 3) := by decide +kernel
theorem d_Cd_groupOf_108 : decode c_Cd_groupOf 108 = .ok (.ifCond .eq 7, 3) := by decide +kernel
theorem d_Cd_groupOf_111 : decode c_Cd_groupOf 111 = .ok (.iconst 0, 1) := by decide +kernel
theorem d_Cd_groupOf_112 : decode c_Cd_groupOf 112 = .ok (.goto 5, 3) := by decide +kernel
theorem d_Cd_groupOf_115 : decode c_Cd_groupOf 115 = .ok (.bipush 10, 2) := by decide +kernel
theorem d_Cd_groupOf_117 : decode c_Cd_groupOf 117 = .ok (.ireturn, 1) := by decide +kernel
theorem d_Cd_groupOf_118 : decode c_Cd_groupOf 118 = .ok (.iload_n 1, 1) := by decide +kernel
theorem d_Cd_groupOf_119 : decode c_Cd_groupOf 119 = .ok (.iload_n 0, 1) := by decide +kernel
theorem d_Cd_groupOf_120 : decode c_Cd_groupOf 120 = .ok (.invokestatic 19, 3) := by decide +kernel
theorem d_Cd_groupOf_123 : decode c_Cd_groupOf 123 = .ok (.invokestatic 26, 3) := by decide +kernel
theorem d_Cd_groupOf_126 : decode c_Cd_groupOf 126 = .ok (.ifCond .eq 7, 3) := by decide +kernel
theorem d_Cd_groupOf_129 : decode c_Cd_groupOf 129 = .ok (.iconst 0, 1) := by decide +kernel
theorem d_Cd_groupOf_130 : decode c_Cd_groupOf 130 = .ok (.goto 5, 3) := by decide +kernel
theorem d_Cd_groupOf_133 : decode c_Cd_groupOf 133 = .ok (.bipush 10, 2) := by decide +kernel
theorem d_Cd_groupOf_135 : decode c_Cd_groupOf 135 = .ok (.ireturn, 1) := by decide +kernel
theorem d_Cd_groupOf_136 : decode c_Cd_groupOf 136 = .ok (.iconst 0, 1) := by decide +kernel
theorem d_Cd_groupOf_137 : decode c_Cd_groupOf 137 = .ok (.ireturn, 1) := by decide +kernel
theorem d_Cd_groupOf_138 : decode c_Cd_groupOf 138 = .ok (.iload_n 1, 1) := by decide +kernel
theorem d_Cd_groupOf_139 : decode c_Cd_groupOf 139 = .ok (.ifCond .eq 13, 3) := by decide +kernel
theorem d_Cd_groupOf_142 : decode c_Cd_groupOf 142 = .ok (.iload_n 1, 1) := by decide +kernel
theorem d_Cd_groupOf_143 : decode c_Cd_groupOf 143 = .ok (.iconst 2, 1) := by decide +kernel
theorem d_Cd_groupOf_144 : decode c_Cd_groupOf 144 = .ok (.if_icmp .eq 8, 3) := by decide +kernel
theorem d_Cd_groupOf_147 : decode c_Cd_groupOf 147 = .ok (.iload_n 1, 1) := by decide +kernel
theorem d_Cd_groupOf_148 : decode c_Cd_groupOf 148 = .ok (.iconst 4, 1) := by decide +kernel
theorem d_Cd_groupOf_149 : decode c_Cd_groupOf 149 = .ok (.if_icmp .ne 7, 3) := by decide +kernel
theorem d_Cd_groupOf_152 : decode c_Cd_groupOf 152 = .ok (.iconst 1, 1) := by decide +kernel
theorem d_Cd_groupOf_153 : decode c_Cd_groupOf 153 = .ok (.goto 5, 3) := by decide +kernel
theorem d_Cd_groupOf_156 : decode c_Cd_groupOf 156 = .ok (.bipush 10, 2) := by decide +kernel
theorem d_Cd_groupOf_158 : decode c_Cd_groupOf 158 = .ok (.ireturn, 1) := by decide +kernel
theorem d_Cd_groupOf_159 : decode c_Cd_groupOf 159 = .ok (.iload_n 1, 1) := by decide +kernel
theorem d_Cd_groupOf_160 : decode c_Cd_groupOf 160 = .ok (.iconst 2, 1) := by decide +kernel
theorem d_Cd_groupOf_161 : decode c_Cd_groupOf 161 = .ok (.if_icmp .ne 7, 3) := by decide +kernel
theorem d_Cd_groupOf_164 : decode c_Cd_groupOf 164 = .ok (.iconst 2, 1) := by decide +kernel
theorem d_Cd_groupOf_165 : decode c_Cd_groupOf 165 = .ok (.goto 13, 3) := by decide +kernel
theorem d_Cd_groupOf_168 : decode c_Cd_groupOf 168 = .ok (.iload_n 1, 1) := by decide +kernel
theorem d_Cd_groupOf_169 : decode c_Cd_groupOf 169 = .ok (.ifCond .ne 7, 3) := by decide +kernel
theorem d_Cd_groupOf_172 : decode c_Cd_groupOf 172 = .ok (.iconst 3, 1) := by decide +kernel
theorem d_Cd_groupOf_173 : decode c_Cd_groupOf 173 = .ok (.goto 5, 3) := by decide +kernel
theorem d_Cd_groupOf_176 : decode c_Cd_groupOf 176 = .ok (.bipush 10, 2) := by decide +kernel
theorem d_Cd_groupOf_178 : decode c_Cd_groupOf 178 = .ok (.ireturn, 1) := by decide +kernel
theorem d_Cd_groupOf_179 : decode c_Cd_groupOf 179 = .ok (.iload_n 1, 1) := by decide +kernel
theorem d_Cd_groupOf_180 : decode c_Cd_groupOf 180 = .ok (.iconst 2, 1) := by decide +kernel
theorem d_Cd_groupOf_181 : decode c_Cd_groupOf 181 = .ok (.if_icmp .eq 12, 3) := by decide +kernel
theorem d_Cd_groupOf_184 : decode c_Cd_groupOf 184 = .ok (.iload_n 1, 1) := by decide +kernel
theorem d_Cd_groupOf_185 : decode c_Cd_groupOf 185 = .ok (.iconst 3, 1) := by decide +kernel
theorem d_Cd_groupOf_186 : decode c_Cd_groupOf 186 = .ok (.if_icmp .eq 7, 3) := by decide +kernel
theorem d_Cd_groupOf_189 : decode c_Cd_groupOf 189 = .ok (.iconst 4, 1) := by decide +kernel
theorem d_Cd_groupOf_190 : decode c_Cd_groupOf 190 = .ok (.goto 5, 3) := by decide +kernel
theorem d_Cd_groupOf_193 : decode c_Cd_groupOf 193 = .ok (.bipush 10, 2) := by decide +kernel
theorem d_Cd_groupOf_195 : decode c_Cd_groupOf 195 = .ok (.ireturn, 1) := by decide +kernel
theorem d_Cd_groupOf_196 : decode c_Cd_groupOf 196 = .ok (.iconst 5, 1) := by decide +kernel
theorem d_Cd_groupOf_197 : decode c_Cd_groupOf 197 = .ok (.ireturn, 1) := by decide +kernel
theorem d_Cd_groupOf_198 : decode c_Cd_groupOf 198 = .ok (.iload_n 1, 1) := by decide +kernel
theorem d_Cd_groupOf_199 : decode c_Cd_groupOf 199 = .ok (.ifCond .ne 8, 3) := by decide +kernel
theorem d_Cd_groupOf_202 : decode c_Cd_groupOf 202 = .ok (.bipush 6, 2) := by decide +kernel
theorem d_Cd_groupOf_204 : decode c_Cd_groupOf 204 = .ok (.goto 5, 3) := by decide +kernel
theorem d_Cd_groupOf_207 : decode c_Cd_groupOf 207 = .ok (.bipush 10, 2) := by decide +kernel
theorem d_Cd_groupOf_209 : decode c_Cd_groupOf 209 = .ok (.ireturn, 1) := by decide +kernel
theorem d_Cd_groupOf_210 : decode c_Cd_groupOf 210 = .ok (.iload_n 1, 1) := by decide +kernel
theorem d_Cd_groupOf_211 : decode c_Cd_groupOf 211 = .ok (.ifCond .ne 8, 3) := by decide +kernel
theorem d_Cd_groupOf_214 : decode c_Cd_groupOf 214 = .ok (.bipush 7, 2) := by decide +kernel
theorem d_Cd_groupOf_216 : decode c_Cd_groupOf 216 = .ok (.goto 25, 3) := by decide +kernel
theorem d_Cd_groupOf_219 : decode c_Cd_groupOf 219 = .ok (.iload_n 1, 1) := by decide +kernel
theorem d_Cd_groupOf_220 : decode c_Cd_groupOf 220 = .ok (.iconst 1, 1) := by decide +kernel
theorem d_Cd_groupOf_221 : decode c_Cd_groupOf 221 = .ok (.if_icmp .ne 8, 3) := by decide +kernel
theorem d_Cd_groupOf_224 : decode c_Cd_groupOf 224 = .ok (.bipush 8, 2) := by decide +kernel
theorem d_Cd_groupOf_226 : decode c_Cd_groupOf 226 = .ok (.goto 15, 3) := by decide +kernel
theorem d_Cd_groupOf_229 : decode c_Cd_groupOf 229 = .ok (.iload_n 1, 1) := by decide +kernel
theorem d_Cd_groupOf_230 : decode c_Cd_groupOf 230 = .ok (.iconst 2, 1) := by decide +kernel
theorem d_Cd_groupOf_231 : decode c_Cd_groupOf 231 = .ok (.if_icmp .ne 8, 3) := by decide +kernel
theorem d_Cd_groupOf_234 : decode c_Cd_groupOf 234 = .ok (.bipush 9, 2) := by decide +kernel
theorem d_Cd_groupOf_236 : decode c_Cd_groupOf 236 = .ok (.goto 5, 3) := by decide +kernel
theorem d_Cd_groupOf_239 : decode c_Cd_groupOf 239 = .ok (.bipush 10, 2) := by decide +kernel
theorem d_Cd_groupOf_241 : decode c_Cd_groupOf 241 = .ok (.ireturn, 1) := by decide +kernel
theorem d_Cd_groupOf_242 : decode c_Cd_groupOf 242 = .ok (.bipush 10, 2) := by decide +kernel
theorem d_Cd_groupOf_244 : decode c_Cd_groupOf 244 = .ok (.ireturn, 1) := by decide +kernel
theorem d_Cd_isRegisterWork_0 : decode c_Cd_isRegisterWork 0 = .ok (.iload_n 1, 1) := by decide +kernel
theorem d_Cd_isRegisterWork_1 : decode c_Cd_isRegisterWork 1 = .ok (.ifCond .eq 18, 3) := by decide +kernel
theorem d_Cd_isRegisterWork_4 : decode c_Cd_isRegisterWork 4 = .ok (.iload_n 1, 1) := by decide +kernel
theorem d_Cd_isRegisterWork_5 : decode c_Cd_isRegisterWork 5 = .ok (.bipush 32, 2) := by decide +kernel
theorem d_Cd_isRegisterWork_7 : decode c_Cd_isRegisterWork 7 = .ok (.if_icmp .ne 16, 3) := by decide +kernel
theorem d_Cd_isRegisterWork_10 : decode c_Cd_isRegisterWork 10 = .ok (.iload_n 0, 1) := by decide +kernel
theorem d_Cd_isRegisterWork_11 : decode c_Cd_isRegisterWork 11 = .ok (.ifCond .eq 8, 3) := by decide +kernel
theorem d_Cd_isRegisterWork_14 : decode c_Cd_isRegisterWork 14 = .ok (.iload_n 0, 1) := by decide +kernel
theorem d_Cd_isRegisterWork_15 : decode c_Cd_isRegisterWork 15 = .ok (.iconst 5, 1) := by decide +kernel
theorem d_Cd_isRegisterWork_16 : decode c_Cd_isRegisterWork 16 = .ok (.if_icmp .ne 7, 3) := by decide +kernel
theorem d_Cd_isRegisterWork_19 : decode c_Cd_isRegisterWork 19 = .ok (.iconst 1, 1) := by decide +kernel
theorem d_Cd_isRegisterWork_20 : decode c_Cd_isRegisterWork 20 = .ok (.goto 4, 3) := by decide +kernel
theorem d_Cd_isRegisterWork_23 : decode c_Cd_isRegisterWork 23 = .ok (.iconst 0, 1) := by decide +kernel
theorem d_Cd_isRegisterWork_24 : decode c_Cd_isRegisterWork 24 = .ok (.ireturn, 1) := by decide +kernel
theorem d_Cd_isNumberWork_0 : decode c_Cd_isNumberWork 0 = .ok (.iload_n 0, 1) := by decide +kernel
theorem d_Cd_isNumberWork_1 : decode c_Cd_isNumberWork 1 = .ok (.iconst 1, 1) := by decide +kernel
theorem d_Cd_isNumberWork_2 : decode c_Cd_isNumberWork 2 = .ok (.if_icmp .ne 13, 3) := by decide +kernel
theorem d_Cd_isNumberWork_5 : decode c_Cd_isNumberWork 5 = .ok (.iload_n 1, 1) := by decide +kernel
theorem d_Cd_isNumberWork_6 : decode c_Cd_isNumberWork 6 = .ok (.ifCond .ne 7, 3) := by decide +kernel
theorem d_Cd_isNumberWork_9 : decode c_Cd_isNumberWork 9 = .ok (.iconst 1, 1) := by decide +kernel
theorem d_Cd_isNumberWork_10 : decode c_Cd_isNumberWork 10 = .ok (.goto 4, 3) := by decide +kernel
theorem d_Cd_isNumberWork_13 : decode c_Cd_isNumberWork 13 = .ok (.iconst 0, 1) := by decide +kernel
theorem d_Cd_isNumberWork_14 : decode c_Cd_isNumberWork 14 = .ok (.ireturn, 1) := by decide +kernel
theorem d_Cd_isNumberWork_15 : decode c_Cd_isNumberWork 15 = .ok (.iload_n 0, 1) := by decide +kernel
theorem d_Cd_isNumberWork_16 : decode c_Cd_isNumberWork 16 = .ok (.iconst 5, 1) := by decide +kernel
theorem d_Cd_isNumberWork_17 : decode c_Cd_isNumberWork 17 = .ok (.if_icmp .ne 13, 3) := by decide +kernel
theorem d_Cd_isNumberWork_20 : decode c_Cd_isNumberWork 20 = .ok (.iload_n 1, 1) := by decide +kernel
theorem d_Cd_isNumberWork_21 : decode c_Cd_isNumberWork 21 = .ok (.ifCond .eq 9, 3) := by decide +kernel
theorem d_Cd_isNumberWork_24 : decode c_Cd_isNumberWork 24 = .ok (.iload_n 1, 1) := by decide +kernel
theorem d_Cd_isNumberWork_25 : decode c_Cd_isNumberWork 25 = .ok (.bipush 32, 2) := by decide +kernel
theorem d_Cd_isNumberWork_27 : decode c_Cd_isNumberWork 27 = .ok (.if_icmp .ne 7, 3) := by decide +kernel
theorem d_Cd_isNumberWork_30 : decode c_Cd_isNumberWork 30 = .ok (.iconst 1, 1) := by decide +kernel
theorem d_Cd_isNumberWork_31 : decode c_Cd_isNumberWork 31 = .ok (.goto 4, 3) := by decide +kernel
theorem d_Cd_isNumberWork_34 : decode c_Cd_isNumberWork 34 = .ok (.iconst 0, 1) := by decide +kernel
theorem d_Cd_isNumberWork_35 : decode c_Cd_isNumberWork 35 = .ok (.ireturn, 1) := by decide +kernel
theorem d_Cd_usesMemory_0 : decode c_Cd_usesMemory 0 = .ok (.iload_n 0, 1) := by decide +kernel
theorem d_Cd_usesMemory_1 : decode c_Cd_usesMemory 1 = .ok (.iconst 1, 1) := by decide +kernel
theorem d_Cd_usesMemory_2 : decode c_Cd_usesMemory 2 = .ok (.if_icmp .eq 13, 3) := by decide +kernel
theorem d_Cd_usesMemory_5 : decode c_Cd_usesMemory 5 = .ok (.iload_n 0, 1) := by decide +kernel
theorem d_Cd_usesMemory_6 : decode c_Cd_usesMemory 6 = .ok (.iconst 2, 1) := by decide +kernel
theorem d_Cd_usesMemory_7 : decode c_Cd_usesMemory 7 = .ok (.if_icmp .eq 8, 3) := by decide +kernel
theorem d_Cd_usesMemory_10 : decode c_Cd_usesMemory 10 = .ok (.iload_n 0, 1) := by decide +kernel
theorem d_Cd_usesMemory_11 : decode c_Cd_usesMemory 11 = .ok (.iconst 3, 1) := by decide +kernel
theorem d_Cd_usesMemory_12 : decode c_Cd_usesMemory 12 = .ok (.if_icmp .ne 7, 3) := by decide +kernel
theorem d_Cd_usesMemory_15 : decode c_Cd_usesMemory 15 = .ok (.iconst 1, 1) := by decide +kernel
theorem d_Cd_usesMemory_16 : decode c_Cd_usesMemory 16 = .ok (.goto 4, 3) := by decide +kernel
theorem d_Cd_usesMemory_19 : decode c_Cd_usesMemory 19 = .ok (.iconst 0, 1) := by decide +kernel
theorem d_Cd_usesMemory_20 : decode c_Cd_usesMemory 20 = .ok (.ireturn, 1) := by decide +kernel
theorem d_Cd_isWhole_0 : decode c_Cd_isWhole 0 = .ok (.iload_n 0, 1) := by decide +kernel
theorem d_Cd_isWhole_1 : decode c_Cd_isWhole 1 = .ok (.invokestatic 13, 3) := by decide +kernel
theorem d_Cd_isWhole_4 : decode c_Cd_isWhole 4 = .ok (.iconst 2, 1) := by decide +kernel
theorem d_Cd_isWhole_5 : decode c_Cd_isWhole 5 = .ok (.if_icmp .ne 7, 3) := by decide +kernel
theorem d_Cd_isWhole_8 : decode c_Cd_isWhole 8 = .ok (.iconst 1, 1) := by decide +kernel
theorem d_Cd_isWhole_9 : decode c_Cd_isWhole 9 = .ok (.goto 4, 3) := by decide +kernel
theorem d_Cd_isWhole_12 : decode c_Cd_isWhole 12 = .ok (.iconst 0, 1) := by decide +kernel
theorem d_Cd_isWhole_13 : decode c_Cd_isWhole 13 = .ok (.ireturn, 1) := by decide +kernel
theorem d_Cd_readsA_0 : decode c_Cd_readsA 0 = .ok (.iload_n 0, 1) := by decide +kernel
theorem d_Cd_readsA_1 : decode c_Cd_readsA 1 = .ok (.invokestatic 16, 3) := by decide +kernel
theorem d_Cd_readsA_4 : decode c_Cd_readsA 4 = .ok (.lookupswitch 83 #[(3, 68), (11, 70), (19, 68), (35, 68), (51, 68), (99, 68), (103, 68)], 68) := by decide +kernel
theorem d_Cd_readsA_72 : decode c_Cd_readsA 72 = .ok (.iconst 1, 1) := by decide +kernel
theorem d_Cd_readsA_73 : decode c_Cd_readsA 73 = .ok (.ireturn, 1) := by decide +kernel
theorem d_Cd_readsA_74 : decode c_Cd_readsA 74 = .ok (.iload_n 0, 1) := by decide +kernel
theorem d_Cd_readsA_75 : decode c_Cd_readsA 75 = .ok (.invokestatic 13, 3) := by decide +kernel
theorem d_Cd_readsA_78 : decode c_Cd_readsA 78 = .ok (.ifCond .ne 7, 3) := by decide +kernel
theorem d_Cd_readsA_81 : decode c_Cd_readsA 81 = .ok (.iconst 1, 1) := by decide +kernel
theorem d_Cd_readsA_82 : decode c_Cd_readsA 82 = .ok (.goto 4, 3) := by decide +kernel
theorem d_Cd_readsA_85 : decode c_Cd_readsA 85 = .ok (.iconst 0, 1) := by decide +kernel
theorem d_Cd_readsA_86 : decode c_Cd_readsA 86 = .ok (.ireturn, 1) := by decide +kernel
theorem d_Cd_readsA_87 : decode c_Cd_readsA 87 = .ok (.iconst 0, 1) := by decide +kernel
theorem d_Cd_readsA_88 : decode c_Cd_readsA 88 = .ok (.ireturn, 1) := by decide +kernel
theorem d_Cd_readsB_0 : decode c_Cd_readsB 0 = .ok (.iload_n 0, 1) := by decide +kernel
theorem d_Cd_readsB_1 : decode c_Cd_readsB 1 = .ok (.invokestatic 16, 3) := by decide +kernel
theorem d_Cd_readsB_4 : decode c_Cd_readsB 4 = .ok (.istore_n 1, 1) := by decide +kernel
theorem d_Cd_readsB_5 : decode c_Cd_readsB 5 = .ok (.iload_n 1, 1) := by decide +kernel
theorem d_Cd_readsB_6 : decode c_Cd_readsB 6 = .ok (.bipush 51, 2) := by decide +kernel
theorem d_Cd_readsB_8 : decode c_Cd_readsB 8 = .ok (.if_icmp .eq 15, 3) := by decide +kernel
theorem d_Cd_readsB_11 : decode c_Cd_readsB 11 = .ok (.iload_n 1, 1) := by decide +kernel
theorem d_Cd_readsB_12 : decode c_Cd_readsB 12 = .ok (.bipush 35, 2) := by decide +kernel
theorem d_Cd_readsB_14 : decode c_Cd_readsB 14 = .ok (.if_icmp .eq 9, 3) := by decide +kernel
theorem d_Cd_readsB_17 : decode c_Cd_readsB 17 = .ok (.iload_n 1, 1) := by decide +kernel
theorem d_Cd_readsB_18 : decode c_Cd_readsB 18 = .ok (.bipush 99, 2) := by decide +kernel
theorem d_Cd_readsB_20 : decode c_Cd_readsB 20 = .ok (.if_icmp .ne 7, 3) := by decide +kernel
theorem d_Cd_readsB_23 : decode c_Cd_readsB 23 = .ok (.iconst 1, 1) := by decide +kernel
theorem d_Cd_readsB_24 : decode c_Cd_readsB 24 = .ok (.goto 4, 3) := by decide +kernel
theorem d_Cd_readsB_27 : decode c_Cd_readsB 27 = .ok (.iconst 0, 1) := by decide +kernel
theorem d_Cd_readsB_28 : decode c_Cd_readsB 28 = .ok (.ireturn, 1) := by decide +kernel
theorem d_Cd_combine_0 : decode c_Cd_combine 0 = .ok (.iload_n 0, 1) := by decide +kernel
theorem d_Cd_combine_1 : decode c_Cd_combine 1 = .ok (.tableswitch 117 0 6 #[43, 57, 64, 75, 89, 93, 113], 43) := by decide +kernel
theorem d_Cd_combine_44 : decode c_Cd_combine 44 = .ok (.iload_n 1, 1) := by decide +kernel
theorem d_Cd_combine_45 : decode c_Cd_combine 45 = .ok (.ifCond .eq 9, 3) := by decide +kernel
theorem d_Cd_combine_48 : decode c_Cd_combine 48 = .ok (.iload_n 2, 1) := by decide +kernel
theorem d_Cd_combine_49 : decode c_Cd_combine 49 = .ok (.iload_n 3, 1) := by decide +kernel
theorem d_Cd_combine_50 : decode c_Cd_combine 50 = .ok (.isub, 1) := by decide +kernel
theorem d_Cd_combine_51 : decode c_Cd_combine 51 = .ok (.goto 6, 3) := by decide +kernel
theorem d_Cd_combine_54 : decode c_Cd_combine 54 = .ok (.iload_n 2, 1) := by decide +kernel
theorem d_Cd_combine_55 : decode c_Cd_combine 55 = .ok (.iload_n 3, 1) := by decide +kernel
theorem d_Cd_combine_56 : decode c_Cd_combine 56 = .ok (.iadd, 1) := by decide +kernel
theorem d_Cd_combine_57 : decode c_Cd_combine 57 = .ok (.ireturn, 1) := by decide +kernel
theorem d_Cd_combine_58 : decode c_Cd_combine 58 = .ok (.iload_n 2, 1) := by decide +kernel
theorem d_Cd_combine_59 : decode c_Cd_combine 59 = .ok (.iload_n 3, 1) := by decide +kernel
theorem d_Cd_combine_60 : decode c_Cd_combine 60 = .ok (.bipush 31, 2) := by decide +kernel
theorem d_Cd_combine_62 : decode c_Cd_combine 62 = .ok (.iand, 1) := by decide +kernel
theorem d_Cd_combine_63 : decode c_Cd_combine 63 = .ok (.ishl, 1) := by decide +kernel
theorem d_Cd_combine_64 : decode c_Cd_combine 64 = .ok (.ireturn, 1) := by decide +kernel
theorem d_Cd_combine_65 : decode c_Cd_combine 65 = .ok (.iload_n 2, 1) := by decide +kernel
theorem d_Cd_combine_66 : decode c_Cd_combine 66 = .ok (.iload_n 3, 1) := by decide +kernel
theorem d_Cd_combine_67 : decode c_Cd_combine 67 = .ok (.if_icmp .ge 7, 3) := by decide +kernel
theorem d_Cd_combine_70 : decode c_Cd_combine 70 = .ok (.iconst 1, 1) := by decide +kernel
theorem d_Cd_combine_71 : decode c_Cd_combine 71 = .ok (.goto 4, 3) := by decide +kernel
theorem d_Cd_combine_74 : decode c_Cd_combine 74 = .ok (.iconst 0, 1) := by decide +kernel
theorem d_Cd_combine_75 : decode c_Cd_combine 75 = .ok (.ireturn, 1) := by decide +kernel
theorem d_Cd_combine_76 : decode c_Cd_combine 76 = .ok (.iload_n 2, 1) := by decide +kernel
theorem d_Cd_combine_77 : decode c_Cd_combine 77 = .ok (.iload_n 3, 1) := by decide +kernel
theorem d_Cd_combine_78 : decode c_Cd_combine 78 = .ok (.invokestatic 29, 3) := by decide +kernel
theorem d_Cd_combine_81 : decode c_Cd_combine 81 = .ok (.ifCond .eq 7, 3) := by decide +kernel
theorem d_Cd_combine_84 : decode c_Cd_combine 84 = .ok (.iconst 1, 1) := by decide +kernel
theorem d_Cd_combine_85 : decode c_Cd_combine 85 = .ok (.goto 4, 3) := by decide +kernel
theorem d_Cd_combine_88 : decode c_Cd_combine 88 = .ok (.iconst 0, 1) := by decide +kernel
theorem d_Cd_combine_89 : decode c_Cd_combine 89 = .ok (.ireturn, 1) := by decide +kernel
theorem d_Cd_combine_90 : decode c_Cd_combine 90 = .ok (.iload_n 2, 1) := by decide +kernel
theorem d_Cd_combine_91 : decode c_Cd_combine 91 = .ok (.iload_n 3, 1) := by decide +kernel
theorem d_Cd_combine_92 : decode c_Cd_combine 92 = .ok (.ixor, 1) := by decide +kernel
theorem d_Cd_combine_93 : decode c_Cd_combine 93 = .ok (.ireturn, 1) := by decide +kernel
theorem d_Cd_combine_94 : decode c_Cd_combine 94 = .ok (.iload_n 1, 1) := by decide +kernel
theorem d_Cd_combine_95 : decode c_Cd_combine 95 = .ok (.ifCond .eq 12, 3) := by decide +kernel
theorem d_Cd_combine_98 : decode c_Cd_combine 98 = .ok (.iload_n 2, 1) := by decide +kernel
theorem d_Cd_combine_99 : decode c_Cd_combine 99 = .ok (.iload_n 3, 1) := by decide +kernel
theorem d_Cd_combine_100 : decode c_Cd_combine 100 = .ok (.bipush 31, 2) := by decide +kernel
theorem d_Cd_combine_102 : decode c_Cd_combine 102 = .ok (.iand, 1) := by decide +kernel
theorem d_Cd_combine_103 : decode c_Cd_combine 103 = .ok (.ishr, 1) := by decide +kernel
theorem d_Cd_combine_104 : decode c_Cd_combine 104 = .ok (.goto 9, 3) := by decide +kernel
theorem d_Cd_combine_107 : decode c_Cd_combine 107 = .ok (.iload_n 2, 1) := by decide +kernel
theorem d_Cd_combine_108 : decode c_Cd_combine 108 = .ok (.iload_n 3, 1) := by decide +kernel
theorem d_Cd_combine_109 : decode c_Cd_combine 109 = .ok (.bipush 31, 2) := by decide +kernel
theorem d_Cd_combine_111 : decode c_Cd_combine 111 = .ok (.iand, 1) := by decide +kernel
theorem d_Cd_combine_112 : decode c_Cd_combine 112 = .ok (.iushr, 1) := by decide +kernel
theorem d_Cd_combine_113 : decode c_Cd_combine 113 = .ok (.ireturn, 1) := by decide +kernel
theorem d_Cd_combine_114 : decode c_Cd_combine 114 = .ok (.iload_n 2, 1) := by decide +kernel
theorem d_Cd_combine_115 : decode c_Cd_combine 115 = .ok (.iload_n 3, 1) := by decide +kernel
theorem d_Cd_combine_116 : decode c_Cd_combine 116 = .ok (.ior, 1) := by decide +kernel
theorem d_Cd_combine_117 : decode c_Cd_combine 117 = .ok (.ireturn, 1) := by decide +kernel
theorem d_Cd_combine_118 : decode c_Cd_combine 118 = .ok (.iload_n 2, 1) := by decide +kernel
theorem d_Cd_combine_119 : decode c_Cd_combine 119 = .ok (.iload_n 3, 1) := by decide +kernel
theorem d_Cd_combine_120 : decode c_Cd_combine 120 = .ok (.iand, 1) := by decide +kernel
theorem d_Cd_combine_121 : decode c_Cd_combine 121 = .ok (.ireturn, 1) := by decide +kernel
theorem d_Cd_compares_0 : decode c_Cd_compares 0 = .ok (.iload_n 0, 1) := by decide +kernel
theorem d_Cd_compares_1 : decode c_Cd_compares 1 = .ok (.tableswitch 93 0 6 #[43, 54, 93, 93, 65, 76, 87], 43) := by decide +kernel
theorem d_Cd_compares_44 : decode c_Cd_compares 44 = .ok (.iload_n 1, 1) := by decide +kernel
theorem d_Cd_compares_45 : decode c_Cd_compares 45 = .ok (.iload_n 2, 1) := by decide +kernel
theorem d_Cd_compares_46 : decode c_Cd_compares 46 = .ok (.if_icmp .ne 7, 3) := by decide +kernel
theorem d_Cd_compares_49 : decode c_Cd_compares 49 = .ok (.iconst 1, 1) := by decide +kernel
theorem d_Cd_compares_50 : decode c_Cd_compares 50 = .ok (.goto 4, 3) := by decide +kernel
theorem d_Cd_compares_53 : decode c_Cd_compares 53 = .ok (.iconst 0, 1) := by decide +kernel
theorem d_Cd_compares_54 : decode c_Cd_compares 54 = .ok (.ireturn, 1) := by decide +kernel
theorem d_Cd_compares_55 : decode c_Cd_compares 55 = .ok (.iload_n 1, 1) := by decide +kernel
theorem d_Cd_compares_56 : decode c_Cd_compares 56 = .ok (.iload_n 2, 1) := by decide +kernel
theorem d_Cd_compares_57 : decode c_Cd_compares 57 = .ok (.if_icmp .eq 7, 3) := by decide +kernel
theorem d_Cd_compares_60 : decode c_Cd_compares 60 = .ok (.iconst 1, 1) := by decide +kernel
theorem d_Cd_compares_61 : decode c_Cd_compares 61 = .ok (.goto 4, 3) := by decide +kernel
theorem d_Cd_compares_64 : decode c_Cd_compares 64 = .ok (.iconst 0, 1) := by decide +kernel
theorem d_Cd_compares_65 : decode c_Cd_compares 65 = .ok (.ireturn, 1) := by decide +kernel
theorem d_Cd_compares_66 : decode c_Cd_compares 66 = .ok (.iload_n 1, 1) := by decide +kernel
theorem d_Cd_compares_67 : decode c_Cd_compares 67 = .ok (.iload_n 2, 1) := by decide +kernel
theorem d_Cd_compares_68 : decode c_Cd_compares 68 = .ok (.if_icmp .ge 7, 3) := by decide +kernel
theorem d_Cd_compares_71 : decode c_Cd_compares 71 = .ok (.iconst 1, 1) := by decide +kernel
theorem d_Cd_compares_72 : decode c_Cd_compares 72 = .ok (.goto 4, 3) := by decide +kernel
theorem d_Cd_compares_75 : decode c_Cd_compares 75 = .ok (.iconst 0, 1) := by decide +kernel
theorem d_Cd_compares_76 : decode c_Cd_compares 76 = .ok (.ireturn, 1) := by decide +kernel
theorem d_Cd_compares_77 : decode c_Cd_compares 77 = .ok (.iload_n 1, 1) := by decide +kernel
theorem d_Cd_compares_78 : decode c_Cd_compares 78 = .ok (.iload_n 2, 1) := by decide +kernel
theorem d_Cd_compares_79 : decode c_Cd_compares 79 = .ok (.if_icmp .lt 7, 3) := by decide +kernel
theorem d_Cd_compares_82 : decode c_Cd_compares 82 = .ok (.iconst 1, 1) := by decide +kernel
theorem d_Cd_compares_83 : decode c_Cd_compares 83 = .ok (.goto 4, 3) := by decide +kernel
theorem d_Cd_compares_86 : decode c_Cd_compares 86 = .ok (.iconst 0, 1) := by decide +kernel
theorem d_Cd_compares_87 : decode c_Cd_compares 87 = .ok (.ireturn, 1) := by decide +kernel
theorem d_Cd_compares_88 : decode c_Cd_compares 88 = .ok (.iload_n 1, 1) := by decide +kernel
theorem d_Cd_compares_89 : decode c_Cd_compares 89 = .ok (.iload_n 2, 1) := by decide +kernel
theorem d_Cd_compares_90 : decode c_Cd_compares 90 = .ok (.invokestatic 29, 3) := by decide +kernel
theorem d_Cd_compares_93 : decode c_Cd_compares 93 = .ok (.ireturn, 1) := by decide +kernel
theorem d_Cd_compares_94 : decode c_Cd_compares 94 = .ok (.iload_n 1, 1) := by decide +kernel
theorem d_Cd_compares_95 : decode c_Cd_compares 95 = .ok (.iload_n 2, 1) := by decide +kernel
theorem d_Cd_compares_96 : decode c_Cd_compares 96 = .ok (.invokestatic 29, 3) := by decide +kernel
theorem d_Cd_compares_99 : decode c_Cd_compares 99 = .ok (.ifCond .ne 7, 3) := by decide +kernel
theorem d_Cd_compares_102 : decode c_Cd_compares 102 = .ok (.iconst 1, 1) := by decide +kernel
theorem d_Cd_compares_103 : decode c_Cd_compares 103 = .ok (.goto 4, 3) := by decide +kernel
theorem d_Cd_compares_106 : decode c_Cd_compares 106 = .ok (.iconst 0, 1) := by decide +kernel
theorem d_Cd_compares_107 : decode c_Cd_compares 107 = .ok (.ireturn, 1) := by decide +kernel
theorem d_Cd_isLessUnsigned_0 : decode c_Cd_isLessUnsigned 0 = .ok (.iload_n 0, 1) := by decide +kernel
theorem d_Cd_isLessUnsigned_1 : decode c_Cd_isLessUnsigned 1 = .ok (.ldc 32, 2) := by decide +kernel
theorem d_Cd_isLessUnsigned_3 : decode c_Cd_isLessUnsigned 3 = .ok (.ixor, 1) := by decide +kernel
theorem d_Cd_isLessUnsigned_4 : decode c_Cd_isLessUnsigned 4 = .ok (.iload_n 1, 1) := by decide +kernel
theorem d_Cd_isLessUnsigned_5 : decode c_Cd_isLessUnsigned 5 = .ok (.ldc 32, 2) := by decide +kernel
theorem d_Cd_isLessUnsigned_7 : decode c_Cd_isLessUnsigned 7 = .ok (.ixor, 1) := by decide +kernel
theorem d_Cd_isLessUnsigned_8 : decode c_Cd_isLessUnsigned 8 = .ok (.if_icmp .ge 7, 3) := by decide +kernel
theorem d_Cd_isLessUnsigned_11 : decode c_Cd_isLessUnsigned 11 = .ok (.iconst 1, 1) := by decide +kernel
theorem d_Cd_isLessUnsigned_12 : decode c_Cd_isLessUnsigned 12 = .ok (.goto 4, 3) := by decide +kernel
theorem d_Cd_isLessUnsigned_15 : decode c_Cd_isLessUnsigned 15 = .ok (.iconst 0, 1) := by decide +kernel
theorem d_Cd_isLessUnsigned_16 : decode c_Cd_isLessUnsigned 16 = .ok (.ireturn, 1) := by decide +kernel
theorem d_Ke_init_0 : decode c_Ke_init 0 = .ok (.aload_n 0, 1) := by decide +kernel
theorem d_Ke_init_1 : decode c_Ke_init 1 = .ok (.invokespecial 3, 3) := by decide +kernel
theorem d_Ke_init_4 : decode c_Ke_init 4 = .ok (.aload_n 0, 1) := by decide +kernel
theorem d_Ke_init_5 : decode c_Ke_init 5 = .ok (.sipush 162, 3) := by decide +kernel
theorem d_Ke_init_8 : decode c_Ke_init 8 = .ok (.newarray .int, 2) := by decide +kernel
theorem d_Ke_init_10 : decode c_Ke_init 10 = .ok (.putfield 11, 3) := by decide +kernel
theorem d_Ke_init_13 : decode c_Ke_init 13 = .ok (.aload_n 0, 1) := by decide +kernel
theorem d_Ke_init_14 : decode c_Ke_init 14 = .ok (.bipush 8, 2) := by decide +kernel
theorem d_Ke_init_16 : decode c_Ke_init 16 = .ok (.newarray .int, 2) := by decide +kernel
theorem d_Ke_init_18 : decode c_Ke_init 18 = .ok (.putfield 15, 3) := by decide +kernel
theorem d_Ke_init_21 : decode c_Ke_init 21 = .ok (.return_, 1) := by decide +kernel
theorem d_Ke_learn_0 : decode c_Ke_learn 0 = .ok (.iload_n 1, 1) := by decide +kernel
theorem d_Ke_learn_1 : decode c_Ke_learn 1 = .ok (.bipush 18, 2) := by decide +kernel
theorem d_Ke_learn_3 : decode c_Ke_learn 3 = .ok (.imul, 1) := by decide +kernel
theorem d_Ke_learn_4 : decode c_Ke_learn 4 = .ok (.istore 6, 2) := by decide +kernel
theorem d_Ke_learn_6 : decode c_Ke_learn 6 = .ok (.aload_n 0, 1) := by decide +kernel
theorem d_Ke_learn_7 : decode c_Ke_learn 7 = .ok (.iload 6, 2) := by decide +kernel
theorem d_Ke_learn_9 : decode c_Ke_learn 9 = .ok (.iconst 4, 1) := by decide +kernel
theorem d_Ke_learn_10 : decode c_Ke_learn 10 = .ok (.iload_n 2, 1) := by decide +kernel
theorem d_Ke_learn_11 : decode c_Ke_learn 11 = .ok (.invokevirtual 18, 3) := by decide +kernel
theorem d_Ke_learn_14 : decode c_Ke_learn 14 = .ok (.istore 6, 2) := by decide +kernel
theorem d_Ke_learn_16 : decode c_Ke_learn 16 = .ok (.aload_n 0, 1) := by decide +kernel
theorem d_Ke_learn_17 : decode c_Ke_learn 17 = .ok (.iload 6, 2) := by decide +kernel
theorem d_Ke_learn_19 : decode c_Ke_learn 19 = .ok (.iconst 5, 1) := by decide +kernel
theorem d_Ke_learn_20 : decode c_Ke_learn 20 = .ok (.iload_n 3, 1) := by decide +kernel
theorem d_Ke_learn_21 : decode c_Ke_learn 21 = .ok (.invokevirtual 18, 3) := by decide +kernel
theorem d_Ke_learn_24 : decode c_Ke_learn 24 = .ok (.istore 6, 2) := by decide +kernel
theorem d_Ke_learn_26 : decode c_Ke_learn 26 = .ok (.aload_n 0, 1) := by decide +kernel
theorem d_Ke_learn_27 : decode c_Ke_learn 27 = .ok (.iload 6, 2) := by decide +kernel
theorem d_Ke_learn_29 : decode c_Ke_learn 29 = .ok (.bipush 6, 2) := by decide +kernel
theorem d_Ke_learn_31 : decode c_Ke_learn 31 = .ok (.iload 4, 2) := by decide +kernel
theorem d_Ke_learn_33 : decode c_Ke_learn 33 = .ok (.invokevirtual 18, 3) := by decide +kernel
theorem d_Ke_learn_36 : decode c_Ke_learn 36 = .ok (.istore 6, 2) := by decide +kernel
theorem d_Ke_learn_38 : decode c_Ke_learn 38 = .ok (.aload_n 0, 1) := by decide +kernel
theorem d_Ke_learn_39 : decode c_Ke_learn 39 = .ok (.iload 6, 2) := by decide +kernel
theorem d_Ke_learn_41 : decode c_Ke_learn 41 = .ok (.bipush 7, 2) := by decide +kernel
theorem d_Ke_learn_43 : decode c_Ke_learn 43 = .ok (.iload 5, 2) := by decide +kernel
theorem d_Ke_learn_45 : decode c_Ke_learn 45 = .ok (.invokevirtual 18, 3) := by decide +kernel
theorem d_Ke_learn_48 : decode c_Ke_learn 48 = .ok (.istore 6, 2) := by decide +kernel
theorem d_Ke_learn_50 : decode c_Ke_learn 50 = .ok (.aload_n 0, 1) := by decide +kernel
theorem d_Ke_learn_51 : decode c_Ke_learn 51 = .ok (.getfield 11, 3) := by decide +kernel
theorem d_Ke_learn_54 : decode c_Ke_learn 54 = .ok (.iload 6, 2) := by decide +kernel
theorem d_Ke_learn_56 : decode c_Ke_learn 56 = .ok (.iconst 2, 1) := by decide +kernel
theorem d_Ke_learn_57 : decode c_Ke_learn 57 = .ok (.bipush 6, 2) := by decide +kernel
theorem d_Ke_learn_59 : decode c_Ke_learn 59 = .ok (.bipush 7, 2) := by decide +kernel
theorem d_Ke_learn_61 : decode c_Ke_learn 61 = .ok (.invokestatic 22, 3) := by decide +kernel
theorem d_Ke_learn_64 : decode c_Ke_learn 64 = .ok (.iastore, 1) := by decide +kernel
theorem d_Ke_learn_65 : decode c_Ke_learn 65 = .ok (.aload_n 0, 1) := by decide +kernel
theorem d_Ke_learn_66 : decode c_Ke_learn 66 = .ok (.getfield 11, 3) := by decide +kernel
theorem d_Ke_learn_69 : decode c_Ke_learn 69 = .ok (.iload 6, 2) := by decide +kernel
theorem d_Ke_learn_71 : decode c_Ke_learn 71 = .ok (.iconst 1, 1) := by decide +kernel
theorem d_Ke_learn_72 : decode c_Ke_learn 72 = .ok (.iadd, 1) := by decide +kernel
theorem d_Ke_learn_73 : decode c_Ke_learn 73 = .ok (.iconst 0, 1) := by decide +kernel
theorem d_Ke_learn_74 : decode c_Ke_learn 74 = .ok (.iconst 0, 1) := by decide +kernel
theorem d_Ke_learn_75 : decode c_Ke_learn 75 = .ok (.iconst 0, 1) := by decide +kernel
theorem d_Ke_learn_76 : decode c_Ke_learn 76 = .ok (.invokestatic 22, 3) := by decide +kernel
theorem d_Ke_learn_79 : decode c_Ke_learn 79 = .ok (.iastore, 1) := by decide +kernel
theorem d_Ke_learn_80 : decode c_Ke_learn 80 = .ok (.return_, 1) := by decide +kernel
theorem d_Ke_writeJoins_0 : decode c_Ke_writeJoins 0 = .ok (.iload_n 1, 1) := by decide +kernel
theorem d_Ke_writeJoins_1 : decode c_Ke_writeJoins 1 = .ok (.istore 4, 2) := by decide +kernel
theorem d_Ke_writeJoins_3 : decode c_Ke_writeJoins 3 = .ok (.iconst 0, 1) := by decide +kernel
theorem d_Ke_writeJoins_4 : decode c_Ke_writeJoins 4 = .ok (.istore 5, 2) := by decide +kernel
theorem d_Ke_writeJoins_6 : decode c_Ke_writeJoins 6 = .ok (.iload 5, 2) := by decide +kernel
theorem d_Ke_writeJoins_8 : decode c_Ke_writeJoins 8 = .ok (.iconst 4, 1) := by decide +kernel
theorem d_Ke_writeJoins_9 : decode c_Ke_writeJoins 9 = .ok (.if_icmp .ge 35, 3) := by decide +kernel
theorem d_Ke_writeJoins_12 : decode c_Ke_writeJoins 12 = .ok (.iload_n 3, 1) := by decide +kernel
theorem d_Ke_writeJoins_13 : decode c_Ke_writeJoins 13 = .ok (.iload 5, 2) := by decide +kernel
theorem d_Ke_writeJoins_15 : decode c_Ke_writeJoins 15 = .ok (.ishr, 1) := by decide +kernel
theorem d_Ke_writeJoins_16 : decode c_Ke_writeJoins 16 = .ok (.iconst 1, 1) := by decide +kernel
theorem d_Ke_writeJoins_17 : decode c_Ke_writeJoins 17 = .ok (.iand, 1) := by decide +kernel
theorem d_Ke_writeJoins_18 : decode c_Ke_writeJoins 18 = .ok (.ifCond .eq 20, 3) := by decide +kernel
theorem d_Ke_writeJoins_21 : decode c_Ke_writeJoins 21 = .ok (.aload_n 0, 1) := by decide +kernel
theorem d_Ke_writeJoins_22 : decode c_Ke_writeJoins 22 = .ok (.getfield 11, 3) := by decide +kernel
theorem d_Ke_writeJoins_25 : decode c_Ke_writeJoins 25 = .ok (.iload 4, 2) := by decide +kernel
theorem d_Ke_writeJoins_27 : decode c_Ke_writeJoins 27 = .ok (.iconst 1, 1) := by decide +kernel
theorem d_Ke_writeJoins_28 : decode c_Ke_writeJoins 28 = .ok (.iload_n 2, 1) := by decide +kernel
theorem d_Ke_writeJoins_29 : decode c_Ke_writeJoins 29 = .ok (.iload 5, 2) := by decide +kernel
theorem d_Ke_writeJoins_31 : decode c_Ke_writeJoins 31 = .ok (.invokestatic 22, 3) := by decide +kernel
theorem d_Ke_writeJoins_34 : decode c_Ke_writeJoins 34 = .ok (.iastore, 1) := by decide +kernel
theorem d_Ke_writeJoins_35 : decode c_Ke_writeJoins 35 = .ok (.iinc 4 1, 3) := by decide +kernel
theorem d_Ke_writeJoins_38 : decode c_Ke_writeJoins 38 = .ok (.iinc 5 1, 3) := by decide +kernel
theorem d_Ke_writeJoins_41 : decode c_Ke_writeJoins 41 = .ok (.goto (-35), 3) := by decide +kernel
theorem d_Ke_writeJoins_44 : decode c_Ke_writeJoins 44 = .ok (.iload 4, 2) := by decide +kernel
theorem d_Ke_writeJoins_46 : decode c_Ke_writeJoins 46 = .ok (.ireturn, 1) := by decide +kernel
theorem d_Ke_instruction_0 : decode c_Ke_instruction 0 = .ok (.iload_n 0, 1) := by decide +kernel
theorem d_Ke_instruction_1 : decode c_Ke_instruction 1 = .ok (.bipush 6, 2) := by decide +kernel
theorem d_Ke_instruction_3 : decode c_Ke_instruction 3 = .ok (.ishl, 1) := by decide +kernel
theorem d_Ke_instruction_4 : decode c_Ke_instruction 4 = .ok (.iload_n 1, 1) := by decide +kernel
theorem d_Ke_instruction_5 : decode c_Ke_instruction 5 = .ok (.iconst 3, 1) := by decide +kernel
theorem d_Ke_instruction_6 : decode c_Ke_instruction 6 = .ok (.ishl, 1) := by decide +kernel
theorem d_Ke_instruction_7 : decode c_Ke_instruction 7 = .ok (.ior, 1) := by decide +kernel
theorem d_Ke_instruction_8 : decode c_Ke_instruction 8 = .ok (.iload_n 2, 1) := by decide +kernel
theorem d_Ke_instruction_9 : decode c_Ke_instruction 9 = .ok (.ior, 1) := by decide +kernel
theorem d_Ke_instruction_10 : decode c_Ke_instruction 10 = .ok (.ireturn, 1) := by decide +kernel
theorem d_Ke_workOut_0 : decode c_Ke_workOut 0 = .ok (.aload_n 0, 1) := by decide +kernel
theorem d_Ke_workOut_1 : decode c_Ke_workOut 1 = .ok (.aload_n 1, 1) := by decide +kernel
theorem d_Ke_workOut_2 : decode c_Ke_workOut 2 = .ok (.invokevirtual 25, 3) := by decide +kernel
theorem d_Ke_workOut_5 : decode c_Ke_workOut 5 = .ok (.aload_n 1, 1) := by decide +kernel
theorem d_Ke_workOut_6 : decode c_Ke_workOut 6 = .ok (.getfield 29, 3) := by decide +kernel
theorem d_Ke_workOut_9 : decode c_Ke_workOut 9 = .ok (.bipush 18, 2) := by decide +kernel
theorem d_Ke_workOut_11 : decode c_Ke_workOut 11 = .ok (.imul, 1) := by decide +kernel
theorem d_Ke_workOut_12 : decode c_Ke_workOut 12 = .ok (.istore_n 2, 1) := by decide +kernel
theorem d_Ke_workOut_13 : decode c_Ke_workOut 13 = .ok (.iconst 0, 1) := by decide +kernel
theorem d_Ke_workOut_14 : decode c_Ke_workOut 14 = .ok (.istore_n 3, 1) := by decide +kernel
theorem d_Ke_workOut_15 : decode c_Ke_workOut 15 = .ok (.iconst 1, 1) := by decide +kernel
theorem d_Ke_workOut_16 : decode c_Ke_workOut 16 = .ok (.istore 4, 2) := by decide +kernel
theorem d_Ke_workOut_18 : decode c_Ke_workOut 18 = .ok (.iload 4, 2) := by decide +kernel
theorem d_Ke_workOut_20 : decode c_Ke_workOut 20 = .ok (.ifCond .eq 29, 3) := by decide +kernel
theorem d_Ke_workOut_23 : decode c_Ke_workOut 23 = .ok (.iload_n 3, 1) := by decide +kernel
theorem d_Ke_workOut_24 : decode c_Ke_workOut 24 = .ok (.bipush 18, 2) := by decide +kernel
theorem d_Ke_workOut_26 : decode c_Ke_workOut 26 = .ok (.if_icmp .ge 23, 3) := by decide +kernel
theorem d_Ke_workOut_29 : decode c_Ke_workOut 29 = .ok (.aload_n 0, 1) := by decide +kernel
theorem d_Ke_workOut_30 : decode c_Ke_workOut 30 = .ok (.aload_n 0, 1) := by decide +kernel
theorem d_Ke_workOut_31 : decode c_Ke_workOut 31 = .ok (.getfield 11, 3) := by decide +kernel
theorem d_Ke_workOut_34 : decode c_Ke_workOut 34 = .ok (.iload_n 2, 1) := by decide +kernel
theorem d_Ke_workOut_35 : decode c_Ke_workOut 35 = .ok (.iload_n 3, 1) := by decide +kernel
theorem d_Ke_workOut_36 : decode c_Ke_workOut 36 = .ok (.iadd, 1) := by decide +kernel
theorem d_Ke_workOut_37 : decode c_Ke_workOut 37 = .ok (.iaload, 1) := by decide +kernel
theorem d_Ke_workOut_38 : decode c_Ke_workOut 38 = .ok (.invokevirtual 35, 3) := by decide +kernel
theorem d_Ke_workOut_41 : decode c_Ke_workOut 41 = .ok (.istore 4, 2) := by decide +kernel
theorem d_Ke_workOut_43 : decode c_Ke_workOut 43 = .ok (.iinc 3 1, 3) := by decide +kernel
theorem d_Ke_workOut_46 : decode c_Ke_workOut 46 = .ok (.goto (-28), 3) := by decide +kernel
theorem d_Ke_workOut_49 : decode c_Ke_workOut 49 = .ok (.iload_n 3, 1) := by decide +kernel
theorem d_Ke_workOut_50 : decode c_Ke_workOut 50 = .ok (.ireturn, 1) := by decide +kernel
theorem d_Ke_takeIn_0 : decode c_Ke_takeIn 0 = .ok (.aload_n 0, 1) := by decide +kernel
theorem d_Ke_takeIn_1 : decode c_Ke_takeIn 1 = .ok (.getfield 15, 3) := by decide +kernel
theorem d_Ke_takeIn_4 : decode c_Ke_takeIn 4 = .ok (.iconst 0, 1) := by decide +kernel
theorem d_Ke_takeIn_5 : decode c_Ke_takeIn 5 = .ok (.aload_n 1, 1) := by decide +kernel
theorem d_Ke_takeIn_6 : decode c_Ke_takeIn 6 = .ok (.getfield 39, 3) := by decide +kernel
theorem d_Ke_takeIn_9 : decode c_Ke_takeIn 9 = .ok (.iastore, 1) := by decide +kernel
theorem d_Ke_takeIn_10 : decode c_Ke_takeIn 10 = .ok (.aload_n 0, 1) := by decide +kernel
theorem d_Ke_takeIn_11 : decode c_Ke_takeIn 11 = .ok (.getfield 15, 3) := by decide +kernel
theorem d_Ke_takeIn_14 : decode c_Ke_takeIn 14 = .ok (.iconst 1, 1) := by decide +kernel
theorem d_Ke_takeIn_15 : decode c_Ke_takeIn 15 = .ok (.aload_n 1, 1) := by decide +kernel
theorem d_Ke_takeIn_16 : decode c_Ke_takeIn 16 = .ok (.getfield 42, 3) := by decide +kernel
theorem d_Ke_takeIn_19 : decode c_Ke_takeIn 19 = .ok (.iastore, 1) := by decide +kernel
theorem d_Ke_takeIn_20 : decode c_Ke_takeIn 20 = .ok (.aload_n 0, 1) := by decide +kernel
theorem d_Ke_takeIn_21 : decode c_Ke_takeIn 21 = .ok (.getfield 15, 3) := by decide +kernel
theorem d_Ke_takeIn_24 : decode c_Ke_takeIn 24 = .ok (.iconst 2, 1) := by decide +kernel
theorem d_Ke_takeIn_25 : decode c_Ke_takeIn 25 = .ok (.aload_n 1, 1) := by decide +kernel
theorem d_Ke_takeIn_26 : decode c_Ke_takeIn 26 = .ok (.getfield 45, 3) := by decide +kernel
theorem d_Ke_takeIn_29 : decode c_Ke_takeIn 29 = .ok (.iastore, 1) := by decide +kernel
theorem d_Ke_takeIn_30 : decode c_Ke_takeIn 30 = .ok (.aload_n 0, 1) := by decide +kernel
theorem d_Ke_takeIn_31 : decode c_Ke_takeIn 31 = .ok (.getfield 15, 3) := by decide +kernel
theorem d_Ke_takeIn_34 : decode c_Ke_takeIn 34 = .ok (.iconst 3, 1) := by decide +kernel
theorem d_Ke_takeIn_35 : decode c_Ke_takeIn 35 = .ok (.aload_n 1, 1) := by decide +kernel
theorem d_Ke_takeIn_36 : decode c_Ke_takeIn 36 = .ok (.getfield 48, 3) := by decide +kernel
theorem d_Ke_takeIn_39 : decode c_Ke_takeIn 39 = .ok (.iastore, 1) := by decide +kernel
theorem d_Ke_takeIn_40 : decode c_Ke_takeIn 40 = .ok (.aload_n 0, 1) := by decide +kernel
theorem d_Ke_takeIn_41 : decode c_Ke_takeIn 41 = .ok (.getfield 15, 3) := by decide +kernel
theorem d_Ke_takeIn_44 : decode c_Ke_takeIn 44 = .ok (.iconst 4, 1) := by decide +kernel
theorem d_Ke_takeIn_45 : decode c_Ke_takeIn 45 = .ok (.bipush 8, 2) := by decide +kernel
theorem d_Ke_takeIn_47 : decode c_Ke_takeIn 47 = .ok (.iconst 0, 1) := by decide +kernel
theorem d_Ke_takeIn_48 : decode c_Ke_takeIn 48 = .ok (.invokestatic 51, 3) := by decide +kernel
theorem d_Ke_takeIn_51 : decode c_Ke_takeIn 51 = .ok (.return_, 1) := by decide +kernel
theorem d_Ke_execute_0 : decode c_Ke_execute 0 = .ok (.iload_n 1, 1) := by decide +kernel
theorem d_Ke_execute_1 : decode c_Ke_execute 1 = .ok (.iconst 3, 1) := by decide +kernel
theorem d_Ke_execute_2 : decode c_Ke_execute 2 = .ok (.ishr, 1) := by decide +kernel
theorem d_Ke_execute_3 : decode c_Ke_execute 3 = .ok (.bipush 7, 2) := by decide +kernel
theorem d_Ke_execute_5 : decode c_Ke_execute 5 = .ok (.iand, 1) := by decide +kernel
theorem d_Ke_execute_6 : decode c_Ke_execute 6 = .ok (.istore_n 2, 1) := by decide +kernel
theorem d_Ke_execute_7 : decode c_Ke_execute 7 = .ok (.iload_n 1, 1) := by decide +kernel
theorem d_Ke_execute_8 : decode c_Ke_execute 8 = .ok (.bipush 7, 2) := by decide +kernel
theorem d_Ke_execute_10 : decode c_Ke_execute 10 = .ok (.iand, 1) := by decide +kernel
theorem d_Ke_execute_11 : decode c_Ke_execute 11 = .ok (.istore_n 3, 1) := by decide +kernel
theorem d_Ke_execute_12 : decode c_Ke_execute 12 = .ok (.iload_n 1, 1) := by decide +kernel
theorem d_Ke_execute_13 : decode c_Ke_execute 13 = .ok (.bipush 6, 2) := by decide +kernel
theorem d_Ke_execute_15 : decode c_Ke_execute 15 = .ok (.ishr, 1) := by decide +kernel
theorem d_Ke_execute_16 : decode c_Ke_execute 16 = .ok (.lookupswitch 64 #[(1, 28), (2, 45)], 28) := by decide +kernel
theorem d_Ke_execute_44 : decode c_Ke_execute 44 = .ok (.aload_n 0, 1) := by decide +kernel
theorem d_Ke_execute_45 : decode c_Ke_execute 45 = .ok (.getfield 15, 3) := by decide +kernel
theorem d_Ke_execute_48 : decode c_Ke_execute 48 = .ok (.iload_n 2, 1) := by decide +kernel
theorem d_Ke_execute_49 : decode c_Ke_execute 49 = .ok (.dup2, 1) := by decide +kernel
theorem d_Ke_execute_50 : decode c_Ke_execute 50 = .ok (.iaload, 1) := by decide +kernel
theorem d_Ke_execute_51 : decode c_Ke_execute 51 = .ok (.aload_n 0, 1) := by decide +kernel
theorem d_Ke_execute_52 : decode c_Ke_execute 52 = .ok (.getfield 15, 3) := by decide +kernel
theorem d_Ke_execute_55 : decode c_Ke_execute 55 = .ok (.iload_n 3, 1) := by decide +kernel
theorem d_Ke_execute_56 : decode c_Ke_execute 56 = .ok (.iaload, 1) := by decide +kernel
theorem d_Ke_execute_57 : decode c_Ke_execute 57 = .ok (.ior, 1) := by decide +kernel
theorem d_Ke_execute_58 : decode c_Ke_execute 58 = .ok (.iastore, 1) := by decide +kernel
theorem d_Ke_execute_59 : decode c_Ke_execute 59 = .ok (.iconst 1, 1) := by decide +kernel
theorem d_Ke_execute_60 : decode c_Ke_execute 60 = .ok (.ireturn, 1) := by decide +kernel
theorem d_Ke_execute_61 : decode c_Ke_execute 61 = .ok (.aload_n 0, 1) := by decide +kernel
theorem d_Ke_execute_62 : decode c_Ke_execute 62 = .ok (.getfield 15, 3) := by decide +kernel
theorem d_Ke_execute_65 : decode c_Ke_execute 65 = .ok (.iload_n 2, 1) := by decide +kernel
theorem d_Ke_execute_66 : decode c_Ke_execute 66 = .ok (.dup2, 1) := by decide +kernel
theorem d_Ke_execute_67 : decode c_Ke_execute 67 = .ok (.iaload, 1) := by decide +kernel
theorem d_Ke_execute_68 : decode c_Ke_execute 68 = .ok (.aload_n 0, 1) := by decide +kernel
theorem d_Ke_execute_69 : decode c_Ke_execute 69 = .ok (.getfield 15, 3) := by decide +kernel
theorem d_Ke_execute_72 : decode c_Ke_execute 72 = .ok (.iload_n 3, 1) := by decide +kernel
theorem d_Ke_execute_73 : decode c_Ke_execute 73 = .ok (.iaload, 1) := by decide +kernel
theorem d_Ke_execute_74 : decode c_Ke_execute 74 = .ok (.iconst (-1), 1) := by decide +kernel
theorem d_Ke_execute_75 : decode c_Ke_execute 75 = .ok (.ixor, 1) := by decide +kernel
theorem d_Ke_execute_76 : decode c_Ke_execute 76 = .ok (.iand, 1) := by decide +kernel
theorem d_Ke_execute_77 : decode c_Ke_execute 77 = .ok (.iastore, 1) := by decide +kernel
theorem d_Ke_execute_78 : decode c_Ke_execute 78 = .ok (.iconst 1, 1) := by decide +kernel
theorem d_Ke_execute_79 : decode c_Ke_execute 79 = .ok (.ireturn, 1) := by decide +kernel
theorem d_Ke_execute_80 : decode c_Ke_execute 80 = .ok (.iconst 0, 1) := by decide +kernel
theorem d_Ke_execute_81 : decode c_Ke_execute 81 = .ok (.ireturn, 1) := by decide +kernel
theorem d_Ke_allows_0 : decode c_Ke_allows 0 = .ok (.aload_n 0, 1) := by decide +kernel
theorem d_Ke_allows_1 : decode c_Ke_allows 1 = .ok (.getfield 15, 3) := by decide +kernel
theorem d_Ke_allows_4 : decode c_Ke_allows 4 = .ok (.bipush 6, 2) := by decide +kernel
theorem d_Ke_allows_6 : decode c_Ke_allows 6 = .ok (.iaload, 1) := by decide +kernel
theorem d_Ke_allows_7 : decode c_Ke_allows 7 = .ok (.ifCond .ne 7, 3) := by decide +kernel
theorem d_Ke_allows_10 : decode c_Ke_allows 10 = .ok (.iconst 1, 1) := by decide +kernel
theorem d_Ke_allows_11 : decode c_Ke_allows 11 = .ok (.goto 4, 3) := by decide +kernel
theorem d_Ke_allows_14 : decode c_Ke_allows 14 = .ok (.iconst 0, 1) := by decide +kernel
theorem d_Ke_allows_15 : decode c_Ke_allows 15 = .ok (.ireturn, 1) := by decide +kernel
theorem d_Ke_result_0 : decode c_Ke_result 0 = .ok (.aload_n 0, 1) := by decide +kernel
theorem d_Ke_result_1 : decode c_Ke_result 1 = .ok (.getfield 15, 3) := by decide +kernel
theorem d_Ke_result_4 : decode c_Ke_result 4 = .ok (.iconst 4, 1) := by decide +kernel
theorem d_Ke_result_5 : decode c_Ke_result 5 = .ok (.iaload, 1) := by decide +kernel
theorem d_Ke_result_6 : decode c_Ke_result 6 = .ok (.ireturn, 1) := by decide +kernel
theorem d_Ke_next_0 : decode c_Ke_next 0 = .ok (.aload_n 0, 1) := by decide +kernel
theorem d_Ke_next_1 : decode c_Ke_next 1 = .ok (.getfield 15, 3) := by decide +kernel
theorem d_Ke_next_4 : decode c_Ke_next 4 = .ok (.iconst 5, 1) := by decide +kernel
theorem d_Ke_next_5 : decode c_Ke_next 5 = .ok (.iaload, 1) := by decide +kernel
theorem d_Ke_next_6 : decode c_Ke_next 6 = .ok (.ireturn, 1) := by decide +kernel
theorem d_Ky_init_0 : decode c_Ky_init 0 = .ok (.aload_n 0, 1) := by decide +kernel
theorem d_Ky_init_1 : decode c_Ky_init 1 = .ok (.invokespecial 1, 3) := by decide +kernel
theorem d_Ky_init_4 : decode c_Ky_init 4 = .ok (.return_, 1) := by decide +kernel
theorem d_Kc_init_0 : decode c_Kc_init 0 = .ok (.aload_n 0, 1) := by decide +kernel
theorem d_Kc_init_1 : decode c_Kc_init 1 = .ok (.invokespecial 3, 3) := by decide +kernel
theorem d_Kc_init_4 : decode c_Kc_init 4 = .ok (.aload_n 0, 1) := by decide +kernel
theorem d_Kc_init_5 : decode c_Kc_init 5 = .ok (.bipush 64, 2) := by decide +kernel
theorem d_Kc_init_7 : decode c_Kc_init 7 = .ok (.newarray .int, 2) := by decide +kernel
theorem d_Kc_init_9 : decode c_Kc_init 9 = .ok (.putfield 9, 3) := by decide +kernel
theorem d_Kc_init_12 : decode c_Kc_init 12 = .ok (.aload_n 0, 1) := by decide +kernel
theorem d_Kc_init_13 : decode c_Kc_init 13 = .ok (.bipush 64, 2) := by decide +kernel
theorem d_Kc_init_15 : decode c_Kc_init 15 = .ok (.newarray .int, 2) := by decide +kernel
theorem d_Kc_init_17 : decode c_Kc_init 17 = .ok (.putfield 15, 3) := by decide +kernel
theorem d_Kc_init_20 : decode c_Kc_init 20 = .ok (.aload_n 0, 1) := by decide +kernel
theorem d_Kc_init_21 : decode c_Kc_init 21 = .ok (.bipush 64, 2) := by decide +kernel
theorem d_Kc_init_23 : decode c_Kc_init 23 = .ok (.newarray .int, 2) := by decide +kernel
theorem d_Kc_init_25 : decode c_Kc_init 25 = .ok (.putfield 18, 3) := by decide +kernel
theorem d_Kc_init_28 : decode c_Kc_init 28 = .ok (.aload_n 0, 1) := by decide +kernel
theorem d_Kc_init_29 : decode c_Kc_init 29 = .ok (.bipush 64, 2) := by decide +kernel
theorem d_Kc_init_31 : decode c_Kc_init 31 = .ok (.newarray .int, 2) := by decide +kernel
theorem d_Kc_init_33 : decode c_Kc_init 33 = .ok (.putfield 21, 3) := by decide +kernel
theorem d_Kc_init_36 : decode c_Kc_init 36 = .ok (.aload_n 0, 1) := by decide +kernel
theorem d_Kc_init_37 : decode c_Kc_init 37 = .ok (.bipush 64, 2) := by decide +kernel
theorem d_Kc_init_39 : decode c_Kc_init 39 = .ok (.newarray .int, 2) := by decide +kernel
theorem d_Kc_init_41 : decode c_Kc_init 41 = .ok (.putfield 24, 3) := by decide +kernel
theorem d_Kc_init_44 : decode c_Kc_init 44 = .ok (.aload_n 0, 1) := by decide +kernel
theorem d_Kc_init_45 : decode c_Kc_init 45 = .ok (.bipush 64, 2) := by decide +kernel
theorem d_Kc_init_47 : decode c_Kc_init 47 = .ok (.newarray .int, 2) := by decide +kernel
theorem d_Kc_init_49 : decode c_Kc_init 49 = .ok (.putfield 27, 3) := by decide +kernel
theorem d_Kc_init_52 : decode c_Kc_init 52 = .ok (.aload_n 0, 1) := by decide +kernel
theorem d_Kc_init_53 : decode c_Kc_init 53 = .ok (.bipush 64, 2) := by decide +kernel
theorem d_Kc_init_55 : decode c_Kc_init 55 = .ok (.newarray .int, 2) := by decide +kernel
theorem d_Kc_init_57 : decode c_Kc_init 57 = .ok (.putfield 30, 3) := by decide +kernel
theorem d_Kc_init_60 : decode c_Kc_init 60 = .ok (.aload_n 0, 1) := by decide +kernel
theorem d_Kc_init_61 : decode c_Kc_init 61 = .ok (.bipush 16, 2) := by decide +kernel
theorem d_Kc_init_63 : decode c_Kc_init 63 = .ok (.putfield 33, 3) := by decide +kernel
theorem d_Kc_init_66 : decode c_Kc_init 66 = .ok (.return_, 1) := by decide +kernel
theorem d_Kc_forget_0 : decode c_Kc_forget 0 = .ok (.aload_n 0, 1) := by decide +kernel
theorem d_Kc_forget_1 : decode c_Kc_forget 1 = .ok (.iconst 0, 1) := by decide +kernel
theorem d_Kc_forget_2 : decode c_Kc_forget 2 = .ok (.putfield 37, 3) := by decide +kernel
theorem d_Kc_forget_5 : decode c_Kc_forget 5 = .ok (.aload_n 0, 1) := by decide +kernel
theorem d_Kc_forget_6 : decode c_Kc_forget 6 = .ok (.iconst 0, 1) := by decide +kernel
theorem d_Kc_forget_7 : decode c_Kc_forget 7 = .ok (.putfield 40, 3) := by decide +kernel
theorem d_Kc_forget_10 : decode c_Kc_forget 10 = .ok (.return_, 1) := by decide +kernel
theorem d_Kc_resize_0 : decode c_Kc_resize 0 = .ok (.aload_n 0, 1) := by decide +kernel
theorem d_Kc_resize_1 : decode c_Kc_resize 1 = .ok (.getfield 33, 3) := by decide +kernel
theorem d_Kc_resize_4 : decode c_Kc_resize 4 = .ok (.istore_n 2, 1) := by decide +kernel
theorem d_Kc_resize_5 : decode c_Kc_resize 5 = .ok (.aload_n 0, 1) := by decide +kernel
theorem d_Kc_resize_6 : decode c_Kc_resize 6 = .ok (.iload_n 1, 1) := by decide +kernel
theorem d_Kc_resize_7 : decode c_Kc_resize 7 = .ok (.putfield 33, 3) := by decide +kernel
theorem d_Kc_resize_10 : decode c_Kc_resize 10 = .ok (.aload_n 0, 1) := by decide +kernel
theorem d_Kc_resize_11 : decode c_Kc_resize 11 = .ok (.invokevirtual 43, 3) := by decide +kernel
theorem d_Kc_resize_14 : decode c_Kc_resize 14 = .ok (.iload_n 2, 1) := by decide +kernel
theorem d_Kc_resize_15 : decode c_Kc_resize 15 = .ok (.ireturn, 1) := by decide +kernel
theorem d_Kc_size_0 : decode c_Kc_size 0 = .ok (.aload_n 0, 1) := by decide +kernel
theorem d_Kc_size_1 : decode c_Kc_size 1 = .ok (.getfield 37, 3) := by decide +kernel
theorem d_Kc_size_4 : decode c_Kc_size 4 = .ok (.ireturn, 1) := by decide +kernel
theorem d_Kc_find_0 : decode c_Kc_find 0 = .ok (.iconst 0, 1) := by decide +kernel
theorem d_Kc_find_1 : decode c_Kc_find 1 = .ok (.istore_n 2, 1) := by decide +kernel
theorem d_Kc_find_2 : decode c_Kc_find 2 = .ok (.iload_n 2, 1) := by decide +kernel
theorem d_Kc_find_3 : decode c_Kc_find 3 = .ok (.aload_n 0, 1) := by decide +kernel
theorem d_Kc_find_4 : decode c_Kc_find 4 = .ok (.getfield 37, 3) := by decide +kernel
theorem d_Kc_find_7 : decode c_Kc_find 7 = .ok (.if_icmp .ge 76, 3) := by decide +kernel
theorem d_Kc_find_10 : decode c_Kc_find 10 = .ok (.aload_n 0, 1) := by decide +kernel
theorem d_Kc_find_11 : decode c_Kc_find 11 = .ok (.getfield 9, 3) := by decide +kernel
theorem d_Kc_find_14 : decode c_Kc_find 14 = .ok (.iload_n 2, 1) := by decide +kernel
theorem d_Kc_find_15 : decode c_Kc_find 15 = .ok (.iaload, 1) := by decide +kernel
theorem d_Kc_find_16 : decode c_Kc_find 16 = .ok (.aload_n 1, 1) := by decide +kernel
theorem d_Kc_find_17 : decode c_Kc_find 17 = .ok (.getfield 46, 3) := by decide +kernel
theorem d_Kc_find_20 : decode c_Kc_find 20 = .ok (.if_icmp .ne 57, 3) := by decide +kernel
theorem d_Kc_find_23 : decode c_Kc_find 23 = .ok (.aload_n 0, 1) := by decide +kernel
theorem d_Kc_find_24 : decode c_Kc_find 24 = .ok (.getfield 15, 3) := by decide +kernel
theorem d_Kc_find_27 : decode c_Kc_find 27 = .ok (.iload_n 2, 1) := by decide +kernel
theorem d_Kc_find_28 : decode c_Kc_find 28 = .ok (.iaload, 1) := by decide +kernel
theorem d_Kc_find_29 : decode c_Kc_find 29 = .ok (.aload_n 1, 1) := by decide +kernel
theorem d_Kc_find_30 : decode c_Kc_find 30 = .ok (.getfield 51, 3) := by decide +kernel
theorem d_Kc_find_33 : decode c_Kc_find 33 = .ok (.if_icmp .ne 44, 3) := by decide +kernel
theorem d_Kc_find_36 : decode c_Kc_find 36 = .ok (.aload_n 0, 1) := by decide +kernel
theorem d_Kc_find_37 : decode c_Kc_find 37 = .ok (.getfield 18, 3) := by decide +kernel
theorem d_Kc_find_40 : decode c_Kc_find 40 = .ok (.iload_n 2, 1) := by decide +kernel
theorem d_Kc_find_41 : decode c_Kc_find 41 = .ok (.iaload, 1) := by decide +kernel
theorem d_Kc_find_42 : decode c_Kc_find 42 = .ok (.aload_n 1, 1) := by decide +kernel
theorem d_Kc_find_43 : decode c_Kc_find 43 = .ok (.getfield 54, 3) := by decide +kernel
theorem d_Kc_find_46 : decode c_Kc_find 46 = .ok (.if_icmp .ne 31, 3) := by decide +kernel
theorem d_Kc_find_49 : decode c_Kc_find 49 = .ok (.aload_n 0, 1) := by decide +kernel
theorem d_Kc_find_50 : decode c_Kc_find 50 = .ok (.getfield 21, 3) := by decide +kernel
theorem d_Kc_find_53 : decode c_Kc_find 53 = .ok (.iload_n 2, 1) := by decide +kernel
theorem d_Kc_find_54 : decode c_Kc_find 54 = .ok (.iaload, 1) := by decide +kernel
theorem d_Kc_find_55 : decode c_Kc_find 55 = .ok (.aload_n 1, 1) := by decide +kernel
theorem d_Kc_find_56 : decode c_Kc_find 56 = .ok (.getfield 57, 3) := by decide +kernel
theorem d_Kc_find_59 : decode c_Kc_find 59 = .ok (.if_icmp .ne 18, 3) := by decide +kernel
theorem d_Kc_find_62 : decode c_Kc_find 62 = .ok (.aload_n 0, 1) := by decide +kernel
theorem d_Kc_find_63 : decode c_Kc_find 63 = .ok (.getfield 24, 3) := by decide +kernel
theorem d_Kc_find_66 : decode c_Kc_find 66 = .ok (.iload_n 2, 1) := by decide +kernel
theorem d_Kc_find_67 : decode c_Kc_find 67 = .ok (.iaload, 1) := by decide +kernel
theorem d_Kc_find_68 : decode c_Kc_find 68 = .ok (.aload_n 1, 1) := by decide +kernel
theorem d_Kc_find_69 : decode c_Kc_find 69 = .ok (.getfield 60, 3) := by decide +kernel
theorem d_Kc_find_72 : decode c_Kc_find 72 = .ok (.if_icmp .ne 5, 3) := by decide +kernel
theorem d_Kc_find_75 : decode c_Kc_find 75 = .ok (.iload_n 2, 1) := by decide +kernel
theorem d_Kc_find_76 : decode c_Kc_find 76 = .ok (.ireturn, 1) := by decide +kernel
theorem d_Kc_find_77 : decode c_Kc_find 77 = .ok (.iinc 2 1, 3) := by decide +kernel
theorem d_Kc_find_80 : decode c_Kc_find 80 = .ok (.goto (-78), 3) := by decide +kernel
theorem d_Kc_find_83 : decode c_Kc_find 83 = .ok (.iconst (-1), 1) := by decide +kernel
theorem d_Kc_find_84 : decode c_Kc_find 84 = .ok (.ireturn, 1) := by decide +kernel
theorem d_Kc_install_0 : decode c_Kc_install 0 = .ok (.aload_n 0, 1) := by decide +kernel
theorem d_Kc_install_1 : decode c_Kc_install 1 = .ok (.invokevirtual 63, 3) := by decide +kernel
theorem d_Kc_install_4 : decode c_Kc_install 4 = .ok (.istore 4, 2) := by decide +kernel
theorem d_Kc_install_6 : decode c_Kc_install 6 = .ok (.aload_n 0, 1) := by decide +kernel
theorem d_Kc_install_7 : decode c_Kc_install 7 = .ok (.getfield 9, 3) := by decide +kernel
theorem d_Kc_install_10 : decode c_Kc_install 10 = .ok (.iload 4, 2) := by decide +kernel
theorem d_Kc_install_12 : decode c_Kc_install 12 = .ok (.aload_n 1, 1) := by decide +kernel
theorem d_Kc_install_13 : decode c_Kc_install 13 = .ok (.getfield 46, 3) := by decide +kernel
theorem d_Kc_install_16 : decode c_Kc_install 16 = .ok (.iastore, 1) := by decide +kernel
theorem d_Kc_install_17 : decode c_Kc_install 17 = .ok (.aload_n 0, 1) := by decide +kernel
theorem d_Kc_install_18 : decode c_Kc_install 18 = .ok (.getfield 15, 3) := by decide +kernel
theorem d_Kc_install_21 : decode c_Kc_install 21 = .ok (.iload 4, 2) := by decide +kernel
theorem d_Kc_install_23 : decode c_Kc_install 23 = .ok (.aload_n 1, 1) := by decide +kernel
theorem d_Kc_install_24 : decode c_Kc_install 24 = .ok (.getfield 51, 3) := by decide +kernel
theorem d_Kc_install_27 : decode c_Kc_install 27 = .ok (.iastore, 1) := by decide +kernel
theorem d_Kc_install_28 : decode c_Kc_install 28 = .ok (.aload_n 0, 1) := by decide +kernel
theorem d_Kc_install_29 : decode c_Kc_install 29 = .ok (.getfield 18, 3) := by decide +kernel
theorem d_Kc_install_32 : decode c_Kc_install 32 = .ok (.iload 4, 2) := by decide +kernel
theorem d_Kc_install_34 : decode c_Kc_install 34 = .ok (.aload_n 1, 1) := by decide +kernel
theorem d_Kc_install_35 : decode c_Kc_install 35 = .ok (.getfield 54, 3) := by decide +kernel
theorem d_Kc_install_38 : decode c_Kc_install 38 = .ok (.iastore, 1) := by decide +kernel
theorem d_Kc_install_39 : decode c_Kc_install 39 = .ok (.aload_n 0, 1) := by decide +kernel
theorem d_Kc_install_40 : decode c_Kc_install 40 = .ok (.getfield 21, 3) := by decide +kernel
theorem d_Kc_install_43 : decode c_Kc_install 43 = .ok (.iload 4, 2) := by decide +kernel
theorem d_Kc_install_45 : decode c_Kc_install 45 = .ok (.aload_n 1, 1) := by decide +kernel
theorem d_Kc_install_46 : decode c_Kc_install 46 = .ok (.getfield 57, 3) := by decide +kernel
theorem d_Kc_install_49 : decode c_Kc_install 49 = .ok (.iastore, 1) := by decide +kernel
theorem d_Kc_install_50 : decode c_Kc_install 50 = .ok (.aload_n 0, 1) := by decide +kernel
theorem d_Kc_install_51 : decode c_Kc_install 51 = .ok (.getfield 24, 3) := by decide +kernel
theorem d_Kc_install_54 : decode c_Kc_install 54 = .ok (.iload 4, 2) := by decide +kernel
theorem d_Kc_install_56 : decode c_Kc_install 56 = .ok (.aload_n 1, 1) := by decide +kernel
theorem d_Kc_install_57 : decode c_Kc_install 57 = .ok (.getfield 60, 3) := by decide +kernel
theorem d_Kc_install_60 : decode c_Kc_install 60 = .ok (.iastore, 1) := by decide +kernel
theorem d_Kc_install_61 : decode c_Kc_install 61 = .ok (.aload_n 0, 1) := by decide +kernel
theorem d_Kc_install_62 : decode c_Kc_install 62 = .ok (.getfield 27, 3) := by decide +kernel
theorem d_Kc_install_65 : decode c_Kc_install 65 = .ok (.iload 4, 2) := by decide +kernel
theorem d_Kc_install_67 : decode c_Kc_install 67 = .ok (.iload_n 2, 1) := by decide +kernel
theorem d_Kc_install_68 : decode c_Kc_install 68 = .ok (.iastore, 1) := by decide +kernel
theorem d_Kc_install_69 : decode c_Kc_install 69 = .ok (.aload_n 0, 1) := by decide +kernel
theorem d_Kc_install_70 : decode c_Kc_install 70 = .ok (.getfield 30, 3) := by decide +kernel
theorem d_Kc_install_73 : decode c_Kc_install 73 = .ok (.iload 4, 2) := by decide +kernel
theorem d_Kc_install_75 : decode c_Kc_install 75 = .ok (.iload_n 3, 1) := by decide +kernel
theorem d_Kc_install_76 : decode c_Kc_install 76 = .ok (.iastore, 1) := by decide +kernel
theorem d_Kc_install_77 : decode c_Kc_install 77 = .ok (.return_, 1) := by decide +kernel
theorem d_Kc_takePlace_0 : decode c_Kc_takePlace 0 = .ok (.aload_n 0, 1) := by decide +kernel
theorem d_Kc_takePlace_1 : decode c_Kc_takePlace 1 = .ok (.getfield 37, 3) := by decide +kernel
theorem d_Kc_takePlace_4 : decode c_Kc_takePlace 4 = .ok (.aload_n 0, 1) := by decide +kernel
theorem d_Kc_takePlace_5 : decode c_Kc_takePlace 5 = .ok (.getfield 33, 3) := by decide +kernel
theorem d_Kc_takePlace_8 : decode c_Kc_takePlace 8 = .ok (.if_icmp .ge 20, 3) := by decide +kernel
theorem d_Kc_takePlace_11 : decode c_Kc_takePlace 11 = .ok (.aload_n 0, 1) := by decide +kernel
theorem d_Kc_takePlace_12 : decode c_Kc_takePlace 12 = .ok (.dup, 1) := by decide +kernel
theorem d_Kc_takePlace_13 : decode c_Kc_takePlace 13 = .ok (.getfield 37, 3) := by decide +kernel
theorem d_Kc_takePlace_16 : decode c_Kc_takePlace 16 = .ok (.iconst 1, 1) := by decide +kernel
theorem d_Kc_takePlace_17 : decode c_Kc_takePlace 17 = .ok (.iadd, 1) := by decide +kernel
theorem d_Kc_takePlace_18 : decode c_Kc_takePlace 18 = .ok (.putfield 37, 3) := by decide +kernel
theorem d_Kc_takePlace_21 : decode c_Kc_takePlace 21 = .ok (.aload_n 0, 1) := by decide +kernel
theorem d_Kc_takePlace_22 : decode c_Kc_takePlace 22 = .ok (.getfield 37, 3) := by decide +kernel
theorem d_Kc_takePlace_25 : decode c_Kc_takePlace 25 = .ok (.iconst 1, 1) := by decide +kernel
theorem d_Kc_takePlace_26 : decode c_Kc_takePlace 26 = .ok (.isub, 1) := by decide +kernel
theorem d_Kc_takePlace_27 : decode c_Kc_takePlace 27 = .ok (.ireturn, 1) := by decide +kernel
theorem d_Kc_takePlace_28 : decode c_Kc_takePlace 28 = .ok (.aload_n 0, 1) := by decide +kernel
theorem d_Kc_takePlace_29 : decode c_Kc_takePlace 29 = .ok (.getfield 40, 3) := by decide +kernel
theorem d_Kc_takePlace_32 : decode c_Kc_takePlace 32 = .ok (.istore_n 1, 1) := by decide +kernel
theorem d_Kc_takePlace_33 : decode c_Kc_takePlace 33 = .ok (.aload_n 0, 1) := by decide +kernel
theorem d_Kc_takePlace_34 : decode c_Kc_takePlace 34 = .ok (.iload_n 1, 1) := by decide +kernel
theorem d_Kc_takePlace_35 : decode c_Kc_takePlace 35 = .ok (.iconst 1, 1) := by decide +kernel
theorem d_Kc_takePlace_36 : decode c_Kc_takePlace 36 = .ok (.iadd, 1) := by decide +kernel
theorem d_Kc_takePlace_37 : decode c_Kc_takePlace 37 = .ok (.aload_n 0, 1) := by decide +kernel
theorem d_Kc_takePlace_38 : decode c_Kc_takePlace 38 = .ok (.getfield 33, 3) := by decide +kernel
theorem d_Kc_takePlace_41 : decode c_Kc_takePlace 41 = .ok (.if_icmp .lt 7, 3) := by decide +kernel
theorem d_Kc_takePlace_44 : decode c_Kc_takePlace 44 = .ok (.iconst 0, 1) := by decide +kernel
theorem d_Kc_takePlace_45 : decode c_Kc_takePlace 45 = .ok (.goto 6, 3) := by decide +kernel
theorem d_Kc_takePlace_48 : decode c_Kc_takePlace 48 = .ok (.iload_n 1, 1) := by decide +kernel
theorem d_Kc_takePlace_49 : decode c_Kc_takePlace 49 = .ok (.iconst 1, 1) := by decide +kernel
theorem d_Kc_takePlace_50 : decode c_Kc_takePlace 50 = .ok (.iadd, 1) := by decide +kernel
theorem d_Kc_takePlace_51 : decode c_Kc_takePlace 51 = .ok (.putfield 40, 3) := by decide +kernel
theorem d_Kc_takePlace_54 : decode c_Kc_takePlace 54 = .ok (.iload_n 1, 1) := by decide +kernel
theorem d_Kc_takePlace_55 : decode c_Kc_takePlace 55 = .ok (.ireturn, 1) := by decide +kernel
theorem d_Kc_resultOf_0 : decode c_Kc_resultOf 0 = .ok (.aload_n 0, 1) := by decide +kernel
theorem d_Kc_resultOf_1 : decode c_Kc_resultOf 1 = .ok (.getfield 27, 3) := by decide +kernel
theorem d_Kc_resultOf_4 : decode c_Kc_resultOf 4 = .ok (.iload_n 1, 1) := by decide +kernel
theorem d_Kc_resultOf_5 : decode c_Kc_resultOf 5 = .ok (.iaload, 1) := by decide +kernel
theorem d_Kc_resultOf_6 : decode c_Kc_resultOf 6 = .ok (.ireturn, 1) := by decide +kernel
theorem d_Kc_nextOf_0 : decode c_Kc_nextOf 0 = .ok (.aload_n 0, 1) := by decide +kernel
theorem d_Kc_nextOf_1 : decode c_Kc_nextOf 1 = .ok (.getfield 30, 3) := by decide +kernel
theorem d_Kc_nextOf_4 : decode c_Kc_nextOf 4 = .ok (.iload_n 1, 1) := by decide +kernel
theorem d_Kc_nextOf_5 : decode c_Kc_nextOf 5 = .ok (.iaload, 1) := by decide +kernel
theorem d_Kc_nextOf_6 : decode c_Kc_nextOf 6 = .ok (.ireturn, 1) := by decide +kernel
theorem d_Li_init_0 : decode c_Li_init 0 = .ok (.aload_n 0, 1) := by decide +kernel
theorem d_Li_init_1 : decode c_Li_init 1 = .ok (.invokespecial 1, 3) := by decide +kernel
theorem d_Li_init_4 : decode c_Li_init 4 = .ok (.aload_n 0, 1) := by decide +kernel
theorem d_Li_init_5 : decode c_Li_init 5 = .ok (.new 7, 3) := by decide +kernel
theorem d_Li_init_8 : decode c_Li_init 8 = .ok (.dup, 1) := by decide +kernel
theorem d_Li_init_9 : decode c_Li_init 9 = .ok (.iload_n 1, 1) := by decide +kernel
theorem d_Li_init_10 : decode c_Li_init 10 = .ok (.invokespecial 9, 3) := by decide +kernel
theorem d_Li_init_13 : decode c_Li_init 13 = .ok (.putfield 12, 3) := by decide +kernel
theorem d_Li_init_16 : decode c_Li_init 16 = .ok (.aload_n 0, 1) := by decide +kernel
theorem d_Li_init_17 : decode c_Li_init 17 = .ok (.iload_n 1, 1) := by decide +kernel
theorem d_Li_init_18 : decode c_Li_init 18 = .ok (.putfield 18, 3) := by decide +kernel
theorem d_Li_init_21 : decode c_Li_init 21 = .ok (.return_, 1) := by decide +kernel
theorem d_Li_forget_0 : decode c_Li_forget 0 = .ok (.aload_n 0, 1) := by decide +kernel
theorem d_Li_forget_1 : decode c_Li_forget 1 = .ok (.iconst 0, 1) := by decide +kernel
theorem d_Li_forget_2 : decode c_Li_forget 2 = .ok (.putfield 22, 3) := by decide +kernel
theorem d_Li_forget_5 : decode c_Li_forget 5 = .ok (.aload_n 0, 1) := by decide +kernel
theorem d_Li_forget_6 : decode c_Li_forget 6 = .ok (.iconst 0, 1) := by decide +kernel
theorem d_Li_forget_7 : decode c_Li_forget 7 = .ok (.putfield 25, 3) := by decide +kernel
theorem d_Li_forget_10 : decode c_Li_forget 10 = .ok (.return_, 1) := by decide +kernel
theorem d_Li_size_0 : decode c_Li_size 0 = .ok (.aload_n 0, 1) := by decide +kernel
theorem d_Li_size_1 : decode c_Li_size 1 = .ok (.getfield 25, 3) := by decide +kernel
theorem d_Li_size_4 : decode c_Li_size 4 = .ok (.ireturn, 1) := by decide +kernel
theorem d_Li_isFull_0 : decode c_Li_isFull 0 = .ok (.aload_n 0, 1) := by decide +kernel
theorem d_Li_isFull_1 : decode c_Li_isFull 1 = .ok (.getfield 25, 3) := by decide +kernel
theorem d_Li_isFull_4 : decode c_Li_isFull 4 = .ok (.aload_n 0, 1) := by decide +kernel
theorem d_Li_isFull_5 : decode c_Li_isFull 5 = .ok (.getfield 18, 3) := by decide +kernel
theorem d_Li_isFull_8 : decode c_Li_isFull 8 = .ok (.if_icmp .lt 7, 3) := by decide +kernel
theorem d_Li_isFull_11 : decode c_Li_isFull 11 = .ok (.iconst 1, 1) := by decide +kernel
theorem d_Li_isFull_12 : decode c_Li_isFull 12 = .ok (.goto 4, 3) := by decide +kernel
theorem d_Li_isFull_15 : decode c_Li_isFull 15 = .ok (.iconst 0, 1) := by decide +kernel
theorem d_Li_isFull_16 : decode c_Li_isFull 16 = .ok (.ireturn, 1) := by decide +kernel
theorem d_Li_append_0 : decode c_Li_append 0 = .ok (.aload_n 0, 1) := by decide +kernel
theorem d_Li_append_1 : decode c_Li_append 1 = .ok (.getfield 25, 3) := by decide +kernel
theorem d_Li_append_4 : decode c_Li_append 4 = .ok (.aload_n 0, 1) := by decide +kernel
theorem d_Li_append_5 : decode c_Li_append 5 = .ok (.getfield 18, 3) := by decide +kernel
theorem d_Li_append_8 : decode c_Li_append 8 = .ok (.if_icmp .ge 30, 3) := by decide +kernel
theorem d_Li_append_11 : decode c_Li_append 11 = .ok (.aload_n 0, 1) := by decide +kernel
theorem d_Li_append_12 : decode c_Li_append 12 = .ok (.getfield 12, 3) := by decide +kernel
theorem d_Li_append_15 : decode c_Li_append 15 = .ok (.aload_n 0, 1) := by decide +kernel
theorem d_Li_append_16 : decode c_Li_append 16 = .ok (.aload_n 0, 1) := by decide +kernel
theorem d_Li_append_17 : decode c_Li_append 17 = .ok (.getfield 25, 3) := by decide +kernel
theorem d_Li_append_20 : decode c_Li_append 20 = .ok (.invokevirtual 28, 3) := by decide +kernel
theorem d_Li_append_23 : decode c_Li_append 23 = .ok (.iload_n 1, 1) := by decide +kernel
theorem d_Li_append_24 : decode c_Li_append 24 = .ok (.iload_n 2, 1) := by decide +kernel
theorem d_Li_append_25 : decode c_Li_append 25 = .ok (.invokevirtual 32, 3) := by decide +kernel
theorem d_Li_append_28 : decode c_Li_append 28 = .ok (.aload_n 0, 1) := by decide +kernel
theorem d_Li_append_29 : decode c_Li_append 29 = .ok (.dup, 1) := by decide +kernel
theorem d_Li_append_30 : decode c_Li_append 30 = .ok (.getfield 25, 3) := by decide +kernel
theorem d_Li_append_33 : decode c_Li_append 33 = .ok (.iconst 1, 1) := by decide +kernel
theorem d_Li_append_34 : decode c_Li_append 34 = .ok (.iadd, 1) := by decide +kernel
theorem d_Li_append_35 : decode c_Li_append 35 = .ok (.putfield 25, 3) := by decide +kernel
theorem d_Li_append_38 : decode c_Li_append 38 = .ok (.return_, 1) := by decide +kernel
theorem d_Li_dropFirst_0 : decode c_Li_dropFirst 0 = .ok (.aload_n 0, 1) := by decide +kernel
theorem d_Li_dropFirst_1 : decode c_Li_dropFirst 1 = .ok (.getfield 25, 3) := by decide +kernel
theorem d_Li_dropFirst_4 : decode c_Li_dropFirst 4 = .ok (.ifCond .le 22, 3) := by decide +kernel
theorem d_Li_dropFirst_7 : decode c_Li_dropFirst 7 = .ok (.aload_n 0, 1) := by decide +kernel
theorem d_Li_dropFirst_8 : decode c_Li_dropFirst 8 = .ok (.aload_n 0, 1) := by decide +kernel
theorem d_Li_dropFirst_9 : decode c_Li_dropFirst 9 = .ok (.iconst 1, 1) := by decide +kernel
theorem d_Li_dropFirst_10 : decode c_Li_dropFirst 10 = .ok (.invokevirtual 28, 3) := by decide +kernel
theorem d_Li_dropFirst_13 : decode c_Li_dropFirst 13 = .ok (.putfield 22, 3) := by decide +kernel
theorem d_Li_dropFirst_16 : decode c_Li_dropFirst 16 = .ok (.aload_n 0, 1) := by decide +kernel
theorem d_Li_dropFirst_17 : decode c_Li_dropFirst 17 = .ok (.dup, 1) := by decide +kernel
theorem d_Li_dropFirst_18 : decode c_Li_dropFirst 18 = .ok (.getfield 25, 3) := by decide +kernel
theorem d_Li_dropFirst_21 : decode c_Li_dropFirst 21 = .ok (.iconst 1, 1) := by decide +kernel
theorem d_Li_dropFirst_22 : decode c_Li_dropFirst 22 = .ok (.isub, 1) := by decide +kernel
theorem d_Li_dropFirst_23 : decode c_Li_dropFirst 23 = .ok (.putfield 25, 3) := by decide +kernel
theorem d_Li_dropFirst_26 : decode c_Li_dropFirst 26 = .ok (.return_, 1) := by decide +kernel
theorem d_Li_firstNumber_0 : decode c_Li_firstNumber 0 = .ok (.aload_n 0, 1) := by decide +kernel
theorem d_Li_firstNumber_1 : decode c_Li_firstNumber 1 = .ok (.getfield 12, 3) := by decide +kernel
theorem d_Li_firstNumber_4 : decode c_Li_firstNumber 4 = .ok (.aload_n 0, 1) := by decide +kernel
theorem d_Li_firstNumber_5 : decode c_Li_firstNumber 5 = .ok (.getfield 22, 3) := by decide +kernel
theorem d_Li_firstNumber_8 : decode c_Li_firstNumber 8 = .ok (.invokevirtual 36, 3) := by decide +kernel
theorem d_Li_firstNumber_11 : decode c_Li_firstNumber 11 = .ok (.ireturn, 1) := by decide +kernel
theorem d_Li_firstLabel_0 : decode c_Li_firstLabel 0 = .ok (.aload_n 0, 1) := by decide +kernel
theorem d_Li_firstLabel_1 : decode c_Li_firstLabel 1 = .ok (.getfield 12, 3) := by decide +kernel
theorem d_Li_firstLabel_4 : decode c_Li_firstLabel 4 = .ok (.aload_n 0, 1) := by decide +kernel
theorem d_Li_firstLabel_5 : decode c_Li_firstLabel 5 = .ok (.getfield 22, 3) := by decide +kernel
theorem d_Li_firstLabel_8 : decode c_Li_firstLabel 8 = .ok (.invokevirtual 39, 3) := by decide +kernel
theorem d_Li_firstLabel_11 : decode c_Li_firstLabel 11 = .ok (.ireturn, 1) := by decide +kernel
theorem d_Li_pair_0 : decode c_Li_pair 0 = .ok (.aload_n 0, 1) := by decide +kernel
theorem d_Li_pair_1 : decode c_Li_pair 1 = .ok (.getfield 12, 3) := by decide +kernel
theorem d_Li_pair_4 : decode c_Li_pair 4 = .ok (.aload_n 0, 1) := by decide +kernel
theorem d_Li_pair_5 : decode c_Li_pair 5 = .ok (.iload_n 1, 1) := by decide +kernel
theorem d_Li_pair_6 : decode c_Li_pair 6 = .ok (.invokevirtual 28, 3) := by decide +kernel
theorem d_Li_pair_9 : decode c_Li_pair 9 = .ok (.invokevirtual 42, 3) := by decide +kernel
theorem d_Li_pair_12 : decode c_Li_pair 12 = .ok (.lreturn, 1) := by decide +kernel
theorem d_Li_placeOfNth_0 : decode c_Li_placeOfNth 0 = .ok (.aload_n 0, 1) := by decide +kernel
theorem d_Li_placeOfNth_1 : decode c_Li_placeOfNth 1 = .ok (.getfield 22, 3) := by decide +kernel
theorem d_Li_placeOfNth_4 : decode c_Li_placeOfNth 4 = .ok (.iload_n 1, 1) := by decide +kernel
theorem d_Li_placeOfNth_5 : decode c_Li_placeOfNth 5 = .ok (.iadd, 1) := by decide +kernel
theorem d_Li_placeOfNth_6 : decode c_Li_placeOfNth 6 = .ok (.istore_n 2, 1) := by decide +kernel
theorem d_Li_placeOfNth_7 : decode c_Li_placeOfNth 7 = .ok (.iload_n 2, 1) := by decide +kernel
theorem d_Li_placeOfNth_8 : decode c_Li_placeOfNth 8 = .ok (.aload_n 0, 1) := by decide +kernel
theorem d_Li_placeOfNth_9 : decode c_Li_placeOfNth 9 = .ok (.getfield 18, 3) := by decide +kernel
theorem d_Li_placeOfNth_12 : decode c_Li_placeOfNth 12 = .ok (.if_icmp .lt 12, 3) := by decide +kernel
theorem d_Li_placeOfNth_15 : decode c_Li_placeOfNth 15 = .ok (.iload_n 2, 1) := by decide +kernel
theorem d_Li_placeOfNth_16 : decode c_Li_placeOfNth 16 = .ok (.aload_n 0, 1) := by decide +kernel
theorem d_Li_placeOfNth_17 : decode c_Li_placeOfNth 17 = .ok (.getfield 18, 3) := by decide +kernel
theorem d_Li_placeOfNth_20 : decode c_Li_placeOfNth 20 = .ok (.isub, 1) := by decide +kernel
theorem d_Li_placeOfNth_21 : decode c_Li_placeOfNth 21 = .ok (.goto 4, 3) := by decide +kernel
theorem d_Li_placeOfNth_24 : decode c_Li_placeOfNth 24 = .ok (.iload_n 2, 1) := by decide +kernel
theorem d_Li_placeOfNth_25 : decode c_Li_placeOfNth 25 = .ok (.ireturn, 1) := by decide +kernel
theorem d_La_rule_0 : decode c_La_rule 0 = .ok (.aload_n 0, 1) := by decide +kernel
theorem d_La_rule_1 : decode c_La_rule 1 = .ok (.iload_n 1, 1) := by decide +kernel
theorem d_La_rule_2 : decode c_La_rule 2 = .ok (.iload_n 2, 1) := by decide +kernel
theorem d_La_rule_3 : decode c_La_rule 3 = .ok (.iload_n 3, 1) := by decide +kernel
theorem d_La_rule_4 : decode c_La_rule 4 = .ok (.iload 4, 2) := by decide +kernel
theorem d_La_rule_6 : decode c_La_rule 6 = .ok (.iload 5, 2) := by decide +kernel
theorem d_La_rule_8 : decode c_La_rule 8 = .ok (.invokevirtual 7, 3) := by decide +kernel
theorem d_La_rule_11 : decode c_La_rule 11 = .ok (.goto 7, 3) := by decide +kernel
theorem d_La_rule_14 : decode c_La_rule 14 = .ok (.astore 6, 2) := by decide +kernel
theorem d_La_rule_16 : decode c_La_rule 16 = .ok (.iconst 1, 1) := by decide +kernel
theorem d_La_rule_17 : decode c_La_rule 17 = .ok (.ireturn, 1) := by decide +kernel
theorem d_La_rule_18 : decode c_La_rule 18 = .ok (.iconst 0, 1) := by decide +kernel
theorem d_La_rule_19 : decode c_La_rule 19 = .ok (.ireturn, 1) := by decide +kernel
theorem d_La_cache_0 : decode c_La_cache 0 = .ok (.aload_n 2, 1) := by decide +kernel
theorem d_La_cache_1 : decode c_La_cache 1 = .ok (.iconst 0, 1) := by decide +kernel
theorem d_La_cache_2 : decode c_La_cache 2 = .ok (.aload_n 0, 1) := by decide +kernel
theorem d_La_cache_3 : decode c_La_cache 3 = .ok (.iload_n 1, 1) := by decide +kernel
theorem d_La_cache_4 : decode c_La_cache 4 = .ok (.invokevirtual 15, 3) := by decide +kernel
theorem d_La_cache_7 : decode c_La_cache 7 = .ok (.i2l, 1) := by decide +kernel
theorem d_La_cache_8 : decode c_La_cache 8 = .ok (.lastore, 1) := by decide +kernel
theorem d_La_cache_9 : decode c_La_cache 9 = .ok (.goto 6, 3) := by decide +kernel
theorem d_La_cache_12 : decode c_La_cache 12 = .ok (.astore_n 3, 1) := by decide +kernel
theorem d_La_cache_13 : decode c_La_cache 13 = .ok (.iconst 1, 1) := by decide +kernel
theorem d_La_cache_14 : decode c_La_cache 14 = .ok (.ireturn, 1) := by decide +kernel
theorem d_La_cache_15 : decode c_La_cache 15 = .ok (.iconst 0, 1) := by decide +kernel
theorem d_La_cache_16 : decode c_La_cache 16 = .ok (.ireturn, 1) := by decide +kernel
theorem d_La_set_0 : decode c_La_set 0 = .ok (.aload_n 0, 1) := by decide +kernel
theorem d_La_set_1 : decode c_La_set 1 = .ok (.iload_n 1, 1) := by decide +kernel
theorem d_La_set_2 : decode c_La_set 2 = .ok (.iload_n 2, 1) := by decide +kernel
theorem d_La_set_3 : decode c_La_set 3 = .ok (.iload_n 3, 1) := by decide +kernel
theorem d_La_set_4 : decode c_La_set 4 = .ok (.invokevirtual 19, 3) := by decide +kernel
theorem d_La_set_7 : decode c_La_set 7 = .ok (.goto 7, 3) := by decide +kernel
theorem d_La_set_10 : decode c_La_set 10 = .ok (.astore 4, 2) := by decide +kernel
theorem d_La_set_12 : decode c_La_set 12 = .ok (.iconst 1, 1) := by decide +kernel
theorem d_La_set_13 : decode c_La_set 13 = .ok (.ireturn, 1) := by decide +kernel
theorem d_La_set_14 : decode c_La_set 14 = .ok (.iconst 0, 1) := by decide +kernel
theorem d_La_set_15 : decode c_La_set 15 = .ok (.ireturn, 1) := by decide +kernel
theorem d_La_poke_0 : decode c_La_poke 0 = .ok (.aload_n 0, 1) := by decide +kernel
theorem d_La_poke_1 : decode c_La_poke 1 = .ok (.iload_n 1, 1) := by decide +kernel
theorem d_La_poke_2 : decode c_La_poke 2 = .ok (.iload_n 2, 1) := by decide +kernel
theorem d_La_poke_3 : decode c_La_poke 3 = .ok (.iload_n 3, 1) := by decide +kernel
theorem d_La_poke_4 : decode c_La_poke 4 = .ok (.invokevirtual 23, 3) := by decide +kernel
theorem d_La_poke_7 : decode c_La_poke 7 = .ok (.goto 7, 3) := by decide +kernel
theorem d_La_poke_10 : decode c_La_poke 10 = .ok (.astore 4, 2) := by decide +kernel
theorem d_La_poke_12 : decode c_La_poke 12 = .ok (.iconst 1, 1) := by decide +kernel
theorem d_La_poke_13 : decode c_La_poke 13 = .ok (.ireturn, 1) := by decide +kernel
theorem d_La_poke_14 : decode c_La_poke 14 = .ok (.iconst 0, 1) := by decide +kernel
theorem d_La_poke_15 : decode c_La_poke 15 = .ok (.ireturn, 1) := by decide +kernel
theorem d_La_run_0 : decode c_La_run 0 = .ok (.aload_n 2, 1) := by decide +kernel
theorem d_La_run_1 : decode c_La_run 1 = .ok (.iconst 0, 1) := by decide +kernel
theorem d_La_run_2 : decode c_La_run 2 = .ok (.aload_n 0, 1) := by decide +kernel
theorem d_La_run_3 : decode c_La_run 3 = .ok (.iload_n 1, 1) := by decide +kernel
theorem d_La_run_4 : decode c_La_run 4 = .ok (.invokevirtual 26, 3) := by decide +kernel
theorem d_La_run_7 : decode c_La_run 7 = .ok (.i2l, 1) := by decide +kernel
theorem d_La_run_8 : decode c_La_run 8 = .ok (.lastore, 1) := by decide +kernel
theorem d_La_run_9 : decode c_La_run 9 = .ok (.goto 6, 3) := by decide +kernel
theorem d_La_run_12 : decode c_La_run 12 = .ok (.astore_n 3, 1) := by decide +kernel
theorem d_La_run_13 : decode c_La_run 13 = .ok (.iconst 1, 1) := by decide +kernel
theorem d_La_run_14 : decode c_La_run 14 = .ok (.ireturn, 1) := by decide +kernel
theorem d_La_run_15 : decode c_La_run 15 = .ok (.iconst 0, 1) := by decide +kernel
theorem d_La_run_16 : decode c_La_run 16 = .ok (.ireturn, 1) := by decide +kernel
theorem d_La_register_0 : decode c_La_register 0 = .ok (.aload_n 2, 1) := by decide +kernel
theorem d_La_register_1 : decode c_La_register 1 = .ok (.iconst 0, 1) := by decide +kernel
theorem d_La_register_2 : decode c_La_register 2 = .ok (.aload_n 0, 1) := by decide +kernel
theorem d_La_register_3 : decode c_La_register 3 = .ok (.iload_n 1, 1) := by decide +kernel
theorem d_La_register_4 : decode c_La_register 4 = .ok (.invokevirtual 29, 3) := by decide +kernel
theorem d_La_register_7 : decode c_La_register 7 = .ok (.lastore, 1) := by decide +kernel
theorem d_La_register_8 : decode c_La_register 8 = .ok (.goto 6, 3) := by decide +kernel
theorem d_La_register_11 : decode c_La_register 11 = .ok (.astore_n 3, 1) := by decide +kernel
theorem d_La_register_12 : decode c_La_register 12 = .ok (.iconst 1, 1) := by decide +kernel
theorem d_La_register_13 : decode c_La_register 13 = .ok (.ireturn, 1) := by decide +kernel
theorem d_La_register_14 : decode c_La_register 14 = .ok (.iconst 0, 1) := by decide +kernel
theorem d_La_register_15 : decode c_La_register 15 = .ok (.ireturn, 1) := by decide +kernel
theorem d_La_memory_0 : decode c_La_memory 0 = .ok (.aload_n 2, 1) := by decide +kernel
theorem d_La_memory_1 : decode c_La_memory 1 = .ok (.iconst 0, 1) := by decide +kernel
theorem d_La_memory_2 : decode c_La_memory 2 = .ok (.aload_n 0, 1) := by decide +kernel
theorem d_La_memory_3 : decode c_La_memory 3 = .ok (.iload_n 1, 1) := by decide +kernel
theorem d_La_memory_4 : decode c_La_memory 4 = .ok (.invokevirtual 33, 3) := by decide +kernel
theorem d_La_memory_7 : decode c_La_memory 7 = .ok (.lastore, 1) := by decide +kernel
theorem d_La_memory_8 : decode c_La_memory 8 = .ok (.goto 6, 3) := by decide +kernel
theorem d_La_memory_11 : decode c_La_memory 11 = .ok (.astore_n 3, 1) := by decide +kernel
theorem d_La_memory_12 : decode c_La_memory 12 = .ok (.iconst 1, 1) := by decide +kernel
theorem d_La_memory_13 : decode c_La_memory 13 = .ok (.ireturn, 1) := by decide +kernel
theorem d_La_memory_14 : decode c_La_memory 14 = .ok (.iconst 0, 1) := by decide +kernel
theorem d_La_memory_15 : decode c_La_memory 15 = .ok (.ireturn, 1) := by decide +kernel
theorem d_La_output_0 : decode c_La_output 0 = .ok (.aload_n 2, 1) := by decide +kernel
theorem d_La_output_1 : decode c_La_output 1 = .ok (.iconst 0, 1) := by decide +kernel
theorem d_La_output_2 : decode c_La_output 2 = .ok (.aload_n 0, 1) := by decide +kernel
theorem d_La_output_3 : decode c_La_output 3 = .ok (.iload_n 1, 1) := by decide +kernel
theorem d_La_output_4 : decode c_La_output 4 = .ok (.invokevirtual 36, 3) := by decide +kernel
theorem d_La_output_7 : decode c_La_output 7 = .ok (.lastore, 1) := by decide +kernel
theorem d_La_output_8 : decode c_La_output 8 = .ok (.goto 6, 3) := by decide +kernel
theorem d_La_output_11 : decode c_La_output 11 = .ok (.astore_n 3, 1) := by decide +kernel
theorem d_La_output_12 : decode c_La_output 12 = .ok (.iconst 1, 1) := by decide +kernel
theorem d_La_output_13 : decode c_La_output 13 = .ok (.ireturn, 1) := by decide +kernel
theorem d_La_output_14 : decode c_La_output 14 = .ok (.iconst 0, 1) := by decide +kernel
theorem d_La_output_15 : decode c_La_output 15 = .ok (.ireturn, 1) := by decide +kernel
theorem d_La_told_0 : decode c_La_told 0 = .ok (.aload_n 2, 1) := by decide +kernel
theorem d_La_told_1 : decode c_La_told 1 = .ok (.iconst 0, 1) := by decide +kernel
theorem d_La_told_2 : decode c_La_told 2 = .ok (.aload_n 0, 1) := by decide +kernel
theorem d_La_told_3 : decode c_La_told 3 = .ok (.iload_n 1, 1) := by decide +kernel
theorem d_La_told_4 : decode c_La_told 4 = .ok (.invokevirtual 41, 3) := by decide +kernel
theorem d_La_told_7 : decode c_La_told 7 = .ok (.i2l, 1) := by decide +kernel
theorem d_La_told_8 : decode c_La_told 8 = .ok (.lastore, 1) := by decide +kernel
theorem d_La_told_9 : decode c_La_told 9 = .ok (.goto 6, 3) := by decide +kernel
theorem d_La_told_12 : decode c_La_told 12 = .ok (.astore_n 3, 1) := by decide +kernel
theorem d_La_told_13 : decode c_La_told 13 = .ok (.iconst 1, 1) := by decide +kernel
theorem d_La_told_14 : decode c_La_told 14 = .ok (.ireturn, 1) := by decide +kernel
theorem d_La_told_15 : decode c_La_told 15 = .ok (.iconst 0, 1) := by decide +kernel
theorem d_La_told_16 : decode c_La_told 16 = .ok (.ireturn, 1) := by decide +kernel
theorem d_La_law_0 : decode c_La_law 0 = .ok (.new 8, 3) := by decide +kernel
theorem d_La_law_3 : decode c_La_law 3 = .ok (.dup, 1) := by decide +kernel
theorem d_La_law_4 : decode c_La_law 4 = .ok (.invokespecial 44, 3) := by decide +kernel
theorem d_La_law_7 : decode c_La_law 7 = .ok (.astore_n 1, 1) := by decide +kernel
theorem d_La_law_8 : decode c_La_law 8 = .ok (.new 45, 3) := by decide +kernel
theorem d_La_law_11 : decode c_La_law 11 = .ok (.dup, 1) := by decide +kernel
theorem d_La_law_12 : decode c_La_law 12 = .ok (.invokespecial 47, 3) := by decide +kernel
theorem d_La_law_15 : decode c_La_law 15 = .ok (.astore_n 2, 1) := by decide +kernel
theorem d_La_law_16 : decode c_La_law 16 = .ok (.iconst 1, 1) := by decide +kernel
theorem d_La_law_17 : decode c_La_law 17 = .ok (.newarray .long, 2) := by decide +kernel
theorem d_La_law_19 : decode c_La_law 19 = .ok (.astore_n 3, 1) := by decide +kernel
theorem d_La_law_20 : decode c_La_law 20 = .ok (.iconst 0, 1) := by decide +kernel
theorem d_La_law_21 : decode c_La_law 21 = .ok (.istore 4, 2) := by decide +kernel
theorem d_La_law_23 : decode c_La_law 23 = .ok (.iload 4, 2) := by decide +kernel
theorem d_La_law_25 : decode c_La_law 25 = .ok (.aload_n 0, 1) := by decide +kernel
theorem d_La_law_26 : decode c_La_law 26 = .ok (.arraylength, 1) := by decide +kernel
theorem d_La_law_27 : decode c_La_law 27 = .ok (.bipush 6, 2) := by decide +kernel
theorem d_La_law_29 : decode c_La_law 29 = .ok (.isub, 1) := by decide +kernel
theorem d_La_law_30 : decode c_La_law 30 = .ok (.if_icmp .gt 707, 3) := by decide +kernel
theorem d_La_law_33 : decode c_La_law 33 = .ok (.aload_n 0, 1) := by decide +kernel
theorem d_La_law_34 : decode c_La_law 34 = .ok (.iload 4, 2) := by decide +kernel
theorem d_La_law_36 : decode c_La_law 36 = .ok (.iaload, 1) := by decide +kernel
theorem d_La_law_37 : decode c_La_law 37 = .ok (.bipush 15, 2) := by decide +kernel
theorem d_La_law_39 : decode c_La_law 39 = .ok (.iand, 1) := by decide +kernel
theorem d_La_law_40 : decode c_La_law 40 = .ok (.tableswitch 691 0 12 #[68, 93, 106, 117, 201, 257, 317, 377, 414, 470, 525, 580, 635], 68) := by decide +kernel
theorem d_La_law_108 : decode c_La_law 108 = .ok (.aload_n 1, 1) := by decide +kernel
theorem d_La_law_109 : decode c_La_law 109 = .ok (.aload_n 0, 1) := by decide +kernel
theorem d_La_law_110 : decode c_La_law 110 = .ok (.iload 4, 2) := by decide +kernel
theorem d_La_law_112 : decode c_La_law 112 = .ok (.iconst 1, 1) := by decide +kernel
theorem d_La_law_113 : decode c_La_law 113 = .ok (.iadd, 1) := by decide +kernel
theorem d_La_law_114 : decode c_La_law 114 = .ok (.iaload, 1) := by decide +kernel
theorem d_La_law_115 : decode c_La_law 115 = .ok (.invokevirtual 48, 3) := by decide +kernel
theorem d_La_law_118 : decode c_La_law 118 = .ok (.aload_n 2, 1) := by decide +kernel
theorem d_La_law_119 : decode c_La_law 119 = .ok (.aload_n 0, 1) := by decide +kernel
theorem d_La_law_120 : decode c_La_law 120 = .ok (.iload 4, 2) := by decide +kernel
theorem d_La_law_122 : decode c_La_law 122 = .ok (.iconst 1, 1) := by decide +kernel
theorem d_La_law_123 : decode c_La_law 123 = .ok (.iadd, 1) := by decide +kernel
theorem d_La_law_124 : decode c_La_law 124 = .ok (.iaload, 1) := by decide +kernel
theorem d_La_law_125 : decode c_La_law 125 = .ok (.invokevirtual 51, 3) := by decide +kernel
theorem d_La_law_128 : decode c_La_law 128 = .ok (.if_icmp .eq 603, 3) := by decide +kernel
theorem d_La_law_131 : decode c_La_law 131 = .ok (.iconst 0, 1) := by decide +kernel
theorem d_La_law_132 : decode c_La_law 132 = .ok (.ireturn, 1) := by decide +kernel
theorem d_La_law_133 : decode c_La_law 133 = .ok (.aload_n 1, 1) := by decide +kernel
theorem d_La_law_134 : decode c_La_law 134 = .ok (.invokevirtual 52, 3) := by decide +kernel
theorem d_La_law_137 : decode c_La_law 137 = .ok (.aload_n 2, 1) := by decide +kernel
theorem d_La_law_138 : decode c_La_law 138 = .ok (.invokevirtual 56, 3) := by decide +kernel
theorem d_La_law_141 : decode c_La_law 141 = .ok (.if_icmp .eq 590, 3) := by decide +kernel
theorem d_La_law_144 : decode c_La_law 144 = .ok (.iconst 0, 1) := by decide +kernel
theorem d_La_law_145 : decode c_La_law 145 = .ok (.ireturn, 1) := by decide +kernel
theorem d_La_law_146 : decode c_La_law 146 = .ok (.aload_n 1, 1) := by decide +kernel
theorem d_La_law_147 : decode c_La_law 147 = .ok (.invokevirtual 57, 3) := by decide +kernel
theorem d_La_law_150 : decode c_La_law 150 = .ok (.aload_n 2, 1) := by decide +kernel
theorem d_La_law_151 : decode c_La_law 151 = .ok (.invokevirtual 60, 3) := by decide +kernel
theorem d_La_law_154 : decode c_La_law 154 = .ok (.goto 577, 3) := by decide +kernel
theorem d_La_law_157 : decode c_La_law 157 = .ok (.aload_n 1, 1) := by decide +kernel
theorem d_La_law_158 : decode c_La_law 158 = .ok (.aload_n 0, 1) := by decide +kernel
theorem d_La_law_159 : decode c_La_law 159 = .ok (.iload 4, 2) := by decide +kernel
theorem d_La_law_161 : decode c_La_law 161 = .ok (.iconst 1, 1) := by decide +kernel
theorem d_La_law_162 : decode c_La_law 162 = .ok (.iadd, 1) := by decide +kernel
theorem d_La_law_163 : decode c_La_law 163 = .ok (.iaload, 1) := by decide +kernel
theorem d_La_law_164 : decode c_La_law 164 = .ok (.aload_n 0, 1) := by decide +kernel
theorem d_La_law_165 : decode c_La_law 165 = .ok (.iload 4, 2) := by decide +kernel
theorem d_La_law_167 : decode c_La_law 167 = .ok (.iconst 2, 1) := by decide +kernel
theorem d_La_law_168 : decode c_La_law 168 = .ok (.iadd, 1) := by decide +kernel
theorem d_La_law_169 : decode c_La_law 169 = .ok (.iaload, 1) := by decide +kernel
theorem d_La_law_170 : decode c_La_law 170 = .ok (.aload_n 0, 1) := by decide +kernel
theorem d_La_law_171 : decode c_La_law 171 = .ok (.iload 4, 2) := by decide +kernel
theorem d_La_law_173 : decode c_La_law 173 = .ok (.iconst 3, 1) := by decide +kernel
theorem d_La_law_174 : decode c_La_law 174 = .ok (.iadd, 1) := by decide +kernel
theorem d_La_law_175 : decode c_La_law 175 = .ok (.iaload, 1) := by decide +kernel
theorem d_La_law_176 : decode c_La_law 176 = .ok (.aload_n 0, 1) := by decide +kernel
theorem d_La_law_177 : decode c_La_law 177 = .ok (.iload 4, 2) := by decide +kernel
theorem d_La_law_179 : decode c_La_law 179 = .ok (.iconst 4, 1) := by decide +kernel
theorem d_La_law_180 : decode c_La_law 180 = .ok (.iadd, 1) := by decide +kernel
theorem d_La_law_181 : decode c_La_law 181 = .ok (.iaload, 1) := by decide +kernel
theorem d_La_law_182 : decode c_La_law 182 = .ok (.aload_n 0, 1) := by decide +kernel
theorem d_La_law_183 : decode c_La_law 183 = .ok (.iload 4, 2) := by decide +kernel
theorem d_La_law_185 : decode c_La_law 185 = .ok (.iconst 5, 1) := by decide +kernel
theorem d_La_law_186 : decode c_La_law 186 = .ok (.iadd, 1) := by decide +kernel
theorem d_La_law_187 : decode c_La_law 187 = .ok (.iaload, 1) := by decide +kernel
theorem d_La_law_188 : decode c_La_law 188 = .ok (.invokestatic 61, 3) := by decide +kernel
theorem d_La_law_191 : decode c_La_law 191 = .ok (.istore 5, 2) := by decide +kernel
theorem d_La_law_193 : decode c_La_law 193 = .ok (.aload_n 2, 1) := by decide +kernel
theorem d_La_law_194 : decode c_La_law 194 = .ok (.aload_n 0, 1) := by decide +kernel
theorem d_La_law_195 : decode c_La_law 195 = .ok (.iload 4, 2) := by decide +kernel
theorem d_La_law_197 : decode c_La_law 197 = .ok (.iconst 1, 1) := by decide +kernel
theorem d_La_law_198 : decode c_La_law 198 = .ok (.iadd, 1) := by decide +kernel
theorem d_La_law_199 : decode c_La_law 199 = .ok (.iaload, 1) := by decide +kernel
theorem d_La_law_200 : decode c_La_law 200 = .ok (.aload_n 0, 1) := by decide +kernel
theorem d_La_law_201 : decode c_La_law 201 = .ok (.iload 4, 2) := by decide +kernel
theorem d_La_law_203 : decode c_La_law 203 = .ok (.iconst 2, 1) := by decide +kernel
theorem d_La_law_204 : decode c_La_law 204 = .ok (.iadd, 1) := by decide +kernel
theorem d_La_law_205 : decode c_La_law 205 = .ok (.iaload, 1) := by decide +kernel
theorem d_La_law_206 : decode c_La_law 206 = .ok (.aload_n 0, 1) := by decide +kernel
theorem d_La_law_207 : decode c_La_law 207 = .ok (.iload 4, 2) := by decide +kernel
theorem d_La_law_209 : decode c_La_law 209 = .ok (.iconst 3, 1) := by decide +kernel
theorem d_La_law_210 : decode c_La_law 210 = .ok (.iadd, 1) := by decide +kernel
theorem d_La_law_211 : decode c_La_law 211 = .ok (.iaload, 1) := by decide +kernel
theorem d_La_law_212 : decode c_La_law 212 = .ok (.aload_n 0, 1) := by decide +kernel
theorem d_La_law_213 : decode c_La_law 213 = .ok (.iload 4, 2) := by decide +kernel
theorem d_La_law_215 : decode c_La_law 215 = .ok (.iconst 4, 1) := by decide +kernel
theorem d_La_law_216 : decode c_La_law 216 = .ok (.iadd, 1) := by decide +kernel
theorem d_La_law_217 : decode c_La_law 217 = .ok (.iaload, 1) := by decide +kernel
theorem d_La_law_218 : decode c_La_law 218 = .ok (.aload_n 0, 1) := by decide +kernel
theorem d_La_law_219 : decode c_La_law 219 = .ok (.iload 4, 2) := by decide +kernel
theorem d_La_law_221 : decode c_La_law 221 = .ok (.iconst 5, 1) := by decide +kernel
theorem d_La_law_222 : decode c_La_law 222 = .ok (.iadd, 1) := by decide +kernel
theorem d_La_law_223 : decode c_La_law 223 = .ok (.iaload, 1) := by decide +kernel
theorem d_La_law_224 : decode c_La_law 224 = .ok (.invokevirtual 66, 3) := by decide +kernel
theorem d_La_law_227 : decode c_La_law 227 = .ok (.aload_n 2, 1) := by decide +kernel
theorem d_La_law_228 : decode c_La_law 228 = .ok (.invokevirtual 67, 3) := by decide +kernel
theorem d_La_law_231 : decode c_La_law 231 = .ok (.iload 5, 2) := by decide +kernel
theorem d_La_law_233 : decode c_La_law 233 = .ok (.if_icmp .eq 5, 3) := by decide +kernel
theorem d_La_law_236 : decode c_La_law 236 = .ok (.iconst 0, 1) := by decide +kernel
theorem d_La_law_237 : decode c_La_law 237 = .ok (.ireturn, 1) := by decide +kernel
theorem d_La_law_238 : decode c_La_law 238 = .ok (.goto 493, 3) := by decide +kernel
theorem d_La_law_241 : decode c_La_law 241 = .ok (.aload_n 1, 1) := by decide +kernel
theorem d_La_law_242 : decode c_La_law 242 = .ok (.aload_n 0, 1) := by decide +kernel
theorem d_La_law_243 : decode c_La_law 243 = .ok (.iload 4, 2) := by decide +kernel
theorem d_La_law_245 : decode c_La_law 245 = .ok (.iconst 1, 1) := by decide +kernel
theorem d_La_law_246 : decode c_La_law 246 = .ok (.iadd, 1) := by decide +kernel
theorem d_La_law_247 : decode c_La_law 247 = .ok (.iaload, 1) := by decide +kernel
theorem d_La_law_248 : decode c_La_law 248 = .ok (.aload_n 3, 1) := by decide +kernel
theorem d_La_law_249 : decode c_La_law 249 = .ok (.invokestatic 70, 3) := by decide +kernel
theorem d_La_law_252 : decode c_La_law 252 = .ok (.istore 5, 2) := by decide +kernel
theorem d_La_law_254 : decode c_La_law 254 = .ok (.aload_n 2, 1) := by decide +kernel
theorem d_La_law_255 : decode c_La_law 255 = .ok (.aload_n 0, 1) := by decide +kernel
theorem d_La_law_256 : decode c_La_law 256 = .ok (.iload 4, 2) := by decide +kernel
theorem d_La_law_258 : decode c_La_law 258 = .ok (.iconst 1, 1) := by decide +kernel
theorem d_La_law_259 : decode c_La_law 259 = .ok (.iadd, 1) := by decide +kernel
theorem d_La_law_260 : decode c_La_law 260 = .ok (.iaload, 1) := by decide +kernel
theorem d_La_law_261 : decode c_La_law 261 = .ok (.invokevirtual 73, 3) := by decide +kernel
theorem d_La_law_264 : decode c_La_law 264 = .ok (.istore 6, 2) := by decide +kernel
theorem d_La_law_266 : decode c_La_law 266 = .ok (.aload_n 2, 1) := by decide +kernel
theorem d_La_law_267 : decode c_La_law 267 = .ok (.invokevirtual 67, 3) := by decide +kernel
theorem d_La_law_270 : decode c_La_law 270 = .ok (.iload 5, 2) := by decide +kernel
theorem d_La_law_272 : decode c_La_law 272 = .ok (.if_icmp .eq 5, 3) := by decide +kernel
theorem d_La_law_275 : decode c_La_law 275 = .ok (.iconst 0, 1) := by decide +kernel
theorem d_La_law_276 : decode c_La_law 276 = .ok (.ireturn, 1) := by decide +kernel
theorem d_La_law_277 : decode c_La_law 277 = .ok (.iload 5, 2) := by decide +kernel
theorem d_La_law_279 : decode c_La_law 279 = .ok (.ifCond .ne 15, 3) := by decide +kernel
theorem d_La_law_282 : decode c_La_law 282 = .ok (.aload_n 3, 1) := by decide +kernel
theorem d_La_law_283 : decode c_La_law 283 = .ok (.iconst 0, 1) := by decide +kernel
theorem d_La_law_284 : decode c_La_law 284 = .ok (.laload, 1) := by decide +kernel
theorem d_La_law_285 : decode c_La_law 285 = .ok (.iload 6, 2) := by decide +kernel
theorem d_La_law_287 : decode c_La_law 287 = .ok (.i2l, 1) := by decide +kernel
theorem d_La_law_288 : decode c_La_law 288 = .ok (.lcmp, 1) := by decide +kernel
theorem d_La_law_289 : decode c_La_law 289 = .ok (.ifCond .eq 5, 3) := by decide +kernel
theorem d_La_law_292 : decode c_La_law 292 = .ok (.iconst 0, 1) := by decide +kernel
theorem d_La_law_293 : decode c_La_law 293 = .ok (.ireturn, 1) := by decide +kernel
theorem d_La_law_294 : decode c_La_law 294 = .ok (.goto 437, 3) := by decide +kernel
theorem d_La_law_297 : decode c_La_law 297 = .ok (.aload_n 1, 1) := by decide +kernel
theorem d_La_law_298 : decode c_La_law 298 = .ok (.aload_n 0, 1) := by decide +kernel
theorem d_La_law_299 : decode c_La_law 299 = .ok (.iload 4, 2) := by decide +kernel
theorem d_La_law_301 : decode c_La_law 301 = .ok (.iconst 1, 1) := by decide +kernel
theorem d_La_law_302 : decode c_La_law 302 = .ok (.iadd, 1) := by decide +kernel
theorem d_La_law_303 : decode c_La_law 303 = .ok (.iaload, 1) := by decide +kernel
theorem d_La_law_304 : decode c_La_law 304 = .ok (.aload_n 0, 1) := by decide +kernel
theorem d_La_law_305 : decode c_La_law 305 = .ok (.iload 4, 2) := by decide +kernel
theorem d_La_law_307 : decode c_La_law 307 = .ok (.iconst 2, 1) := by decide +kernel
theorem d_La_law_308 : decode c_La_law 308 = .ok (.iadd, 1) := by decide +kernel
theorem d_La_law_309 : decode c_La_law 309 = .ok (.iaload, 1) := by decide +kernel
theorem d_La_law_310 : decode c_La_law 310 = .ok (.aload_n 0, 1) := by decide +kernel
theorem d_La_law_311 : decode c_La_law 311 = .ok (.iload 4, 2) := by decide +kernel
theorem d_La_law_313 : decode c_La_law 313 = .ok (.iconst 3, 1) := by decide +kernel
theorem d_La_law_314 : decode c_La_law 314 = .ok (.iadd, 1) := by decide +kernel
theorem d_La_law_315 : decode c_La_law 315 = .ok (.iaload, 1) := by decide +kernel
theorem d_La_law_316 : decode c_La_law 316 = .ok (.invokestatic 74, 3) := by decide +kernel
theorem d_La_law_319 : decode c_La_law 319 = .ok (.istore 5, 2) := by decide +kernel
theorem d_La_law_321 : decode c_La_law 321 = .ok (.aload_n 2, 1) := by decide +kernel
theorem d_La_law_322 : decode c_La_law 322 = .ok (.aload_n 0, 1) := by decide +kernel
theorem d_La_law_323 : decode c_La_law 323 = .ok (.iload 4, 2) := by decide +kernel
theorem d_La_law_325 : decode c_La_law 325 = .ok (.iconst 1, 1) := by decide +kernel
theorem d_La_law_326 : decode c_La_law 326 = .ok (.iadd, 1) := by decide +kernel
theorem d_La_law_327 : decode c_La_law 327 = .ok (.iaload, 1) := by decide +kernel
theorem d_La_law_328 : decode c_La_law 328 = .ok (.aload_n 0, 1) := by decide +kernel
theorem d_La_law_329 : decode c_La_law 329 = .ok (.iload 4, 2) := by decide +kernel
theorem d_La_law_331 : decode c_La_law 331 = .ok (.iconst 2, 1) := by decide +kernel
theorem d_La_law_332 : decode c_La_law 332 = .ok (.iadd, 1) := by decide +kernel
theorem d_La_law_333 : decode c_La_law 333 = .ok (.iaload, 1) := by decide +kernel
theorem d_La_law_334 : decode c_La_law 334 = .ok (.aload_n 0, 1) := by decide +kernel
theorem d_La_law_335 : decode c_La_law 335 = .ok (.iload 4, 2) := by decide +kernel
theorem d_La_law_337 : decode c_La_law 337 = .ok (.iconst 3, 1) := by decide +kernel
theorem d_La_law_338 : decode c_La_law 338 = .ok (.iadd, 1) := by decide +kernel
theorem d_La_law_339 : decode c_La_law 339 = .ok (.iaload, 1) := by decide +kernel
theorem d_La_law_340 : decode c_La_law 340 = .ok (.invokevirtual 77, 3) := by decide +kernel
theorem d_La_law_343 : decode c_La_law 343 = .ok (.aload_n 2, 1) := by decide +kernel
theorem d_La_law_344 : decode c_La_law 344 = .ok (.invokevirtual 67, 3) := by decide +kernel
theorem d_La_law_347 : decode c_La_law 347 = .ok (.iload 5, 2) := by decide +kernel
theorem d_La_law_349 : decode c_La_law 349 = .ok (.if_icmp .eq 5, 3) := by decide +kernel
theorem d_La_law_352 : decode c_La_law 352 = .ok (.iconst 0, 1) := by decide +kernel
theorem d_La_law_353 : decode c_La_law 353 = .ok (.ireturn, 1) := by decide +kernel
theorem d_La_law_354 : decode c_La_law 354 = .ok (.goto 377, 3) := by decide +kernel
theorem d_La_law_357 : decode c_La_law 357 = .ok (.aload_n 1, 1) := by decide +kernel
theorem d_La_law_358 : decode c_La_law 358 = .ok (.aload_n 0, 1) := by decide +kernel
theorem d_La_law_359 : decode c_La_law 359 = .ok (.iload 4, 2) := by decide +kernel
theorem d_La_law_361 : decode c_La_law 361 = .ok (.iconst 1, 1) := by decide +kernel
theorem d_La_law_362 : decode c_La_law 362 = .ok (.iadd, 1) := by decide +kernel
theorem d_La_law_363 : decode c_La_law 363 = .ok (.iaload, 1) := by decide +kernel
theorem d_La_law_364 : decode c_La_law 364 = .ok (.aload_n 0, 1) := by decide +kernel
theorem d_La_law_365 : decode c_La_law 365 = .ok (.iload 4, 2) := by decide +kernel
theorem d_La_law_367 : decode c_La_law 367 = .ok (.iconst 2, 1) := by decide +kernel
theorem d_La_law_368 : decode c_La_law 368 = .ok (.iadd, 1) := by decide +kernel
theorem d_La_law_369 : decode c_La_law 369 = .ok (.iaload, 1) := by decide +kernel
theorem d_La_law_370 : decode c_La_law 370 = .ok (.aload_n 0, 1) := by decide +kernel
theorem d_La_law_371 : decode c_La_law 371 = .ok (.iload 4, 2) := by decide +kernel
theorem d_La_law_373 : decode c_La_law 373 = .ok (.iconst 3, 1) := by decide +kernel
theorem d_La_law_374 : decode c_La_law 374 = .ok (.iadd, 1) := by decide +kernel
theorem d_La_law_375 : decode c_La_law 375 = .ok (.iaload, 1) := by decide +kernel
theorem d_La_law_376 : decode c_La_law 376 = .ok (.invokestatic 78, 3) := by decide +kernel
theorem d_La_law_379 : decode c_La_law 379 = .ok (.istore 5, 2) := by decide +kernel
theorem d_La_law_381 : decode c_La_law 381 = .ok (.aload_n 2, 1) := by decide +kernel
theorem d_La_law_382 : decode c_La_law 382 = .ok (.aload_n 0, 1) := by decide +kernel
theorem d_La_law_383 : decode c_La_law 383 = .ok (.iload 4, 2) := by decide +kernel
theorem d_La_law_385 : decode c_La_law 385 = .ok (.iconst 1, 1) := by decide +kernel
theorem d_La_law_386 : decode c_La_law 386 = .ok (.iadd, 1) := by decide +kernel
theorem d_La_law_387 : decode c_La_law 387 = .ok (.iaload, 1) := by decide +kernel
theorem d_La_law_388 : decode c_La_law 388 = .ok (.aload_n 0, 1) := by decide +kernel
theorem d_La_law_389 : decode c_La_law 389 = .ok (.iload 4, 2) := by decide +kernel
theorem d_La_law_391 : decode c_La_law 391 = .ok (.iconst 2, 1) := by decide +kernel
theorem d_La_law_392 : decode c_La_law 392 = .ok (.iadd, 1) := by decide +kernel
theorem d_La_law_393 : decode c_La_law 393 = .ok (.iaload, 1) := by decide +kernel
theorem d_La_law_394 : decode c_La_law 394 = .ok (.aload_n 0, 1) := by decide +kernel
theorem d_La_law_395 : decode c_La_law 395 = .ok (.iload 4, 2) := by decide +kernel
theorem d_La_law_397 : decode c_La_law 397 = .ok (.iconst 3, 1) := by decide +kernel
theorem d_La_law_398 : decode c_La_law 398 = .ok (.iadd, 1) := by decide +kernel
theorem d_La_law_399 : decode c_La_law 399 = .ok (.iaload, 1) := by decide +kernel
theorem d_La_law_400 : decode c_La_law 400 = .ok (.invokevirtual 80, 3) := by decide +kernel
theorem d_La_law_403 : decode c_La_law 403 = .ok (.aload_n 2, 1) := by decide +kernel
theorem d_La_law_404 : decode c_La_law 404 = .ok (.invokevirtual 67, 3) := by decide +kernel
theorem d_La_law_407 : decode c_La_law 407 = .ok (.iload 5, 2) := by decide +kernel
theorem d_La_law_409 : decode c_La_law 409 = .ok (.if_icmp .eq 5, 3) := by decide +kernel
theorem d_La_law_412 : decode c_La_law 412 = .ok (.iconst 0, 1) := by decide +kernel
theorem d_La_law_413 : decode c_La_law 413 = .ok (.ireturn, 1) := by decide +kernel
theorem d_La_law_414 : decode c_La_law 414 = .ok (.goto 317, 3) := by decide +kernel
theorem d_La_law_417 : decode c_La_law 417 = .ok (.aload_n 1, 1) := by decide +kernel
theorem d_La_law_418 : decode c_La_law 418 = .ok (.aload_n 0, 1) := by decide +kernel
theorem d_La_law_419 : decode c_La_law 419 = .ok (.iload 4, 2) := by decide +kernel
theorem d_La_law_421 : decode c_La_law 421 = .ok (.iconst 1, 1) := by decide +kernel
theorem d_La_law_422 : decode c_La_law 422 = .ok (.iadd, 1) := by decide +kernel
theorem d_La_law_423 : decode c_La_law 423 = .ok (.iaload, 1) := by decide +kernel
theorem d_La_law_424 : decode c_La_law 424 = .ok (.aload_n 0, 1) := by decide +kernel
theorem d_La_law_425 : decode c_La_law 425 = .ok (.iload 4, 2) := by decide +kernel
theorem d_La_law_427 : decode c_La_law 427 = .ok (.iconst 2, 1) := by decide +kernel
theorem d_La_law_428 : decode c_La_law 428 = .ok (.iadd, 1) := by decide +kernel
theorem d_La_law_429 : decode c_La_law 429 = .ok (.iaload, 1) := by decide +kernel
theorem d_La_law_430 : decode c_La_law 430 = .ok (.invokevirtual 81, 3) := by decide +kernel
theorem d_La_law_433 : decode c_La_law 433 = .ok (.aload_n 2, 1) := by decide +kernel
theorem d_La_law_434 : decode c_La_law 434 = .ok (.aload_n 0, 1) := by decide +kernel
theorem d_La_law_435 : decode c_La_law 435 = .ok (.iload 4, 2) := by decide +kernel
theorem d_La_law_437 : decode c_La_law 437 = .ok (.iconst 1, 1) := by decide +kernel
theorem d_La_law_438 : decode c_La_law 438 = .ok (.iadd, 1) := by decide +kernel
theorem d_La_law_439 : decode c_La_law 439 = .ok (.iaload, 1) := by decide +kernel
theorem d_La_law_440 : decode c_La_law 440 = .ok (.aload_n 0, 1) := by decide +kernel
theorem d_La_law_441 : decode c_La_law 441 = .ok (.iload 4, 2) := by decide +kernel
theorem d_La_law_443 : decode c_La_law 443 = .ok (.iconst 2, 1) := by decide +kernel
theorem d_La_law_444 : decode c_La_law 444 = .ok (.iadd, 1) := by decide +kernel
theorem d_La_law_445 : decode c_La_law 445 = .ok (.iaload, 1) := by decide +kernel
theorem d_La_law_446 : decode c_La_law 446 = .ok (.invokevirtual 85, 3) := by decide +kernel
theorem d_La_law_449 : decode c_La_law 449 = .ok (.if_icmp .eq 282, 3) := by decide +kernel
theorem d_La_law_452 : decode c_La_law 452 = .ok (.iconst 0, 1) := by decide +kernel
theorem d_La_law_453 : decode c_La_law 453 = .ok (.ireturn, 1) := by decide +kernel
theorem d_La_law_454 : decode c_La_law 454 = .ok (.aload_n 1, 1) := by decide +kernel
theorem d_La_law_455 : decode c_La_law 455 = .ok (.aload_n 0, 1) := by decide +kernel
theorem d_La_law_456 : decode c_La_law 456 = .ok (.iload 4, 2) := by decide +kernel
theorem d_La_law_458 : decode c_La_law 458 = .ok (.iconst 1, 1) := by decide +kernel
theorem d_La_law_459 : decode c_La_law 459 = .ok (.iadd, 1) := by decide +kernel
theorem d_La_law_460 : decode c_La_law 460 = .ok (.iaload, 1) := by decide +kernel
theorem d_La_law_461 : decode c_La_law 461 = .ok (.aload_n 3, 1) := by decide +kernel
theorem d_La_law_462 : decode c_La_law 462 = .ok (.invokestatic 86, 3) := by decide +kernel
theorem d_La_law_465 : decode c_La_law 465 = .ok (.istore 5, 2) := by decide +kernel
theorem d_La_law_467 : decode c_La_law 467 = .ok (.aload_n 2, 1) := by decide +kernel
theorem d_La_law_468 : decode c_La_law 468 = .ok (.aload_n 0, 1) := by decide +kernel
theorem d_La_law_469 : decode c_La_law 469 = .ok (.iload 4, 2) := by decide +kernel
theorem d_La_law_471 : decode c_La_law 471 = .ok (.iconst 1, 1) := by decide +kernel
theorem d_La_law_472 : decode c_La_law 472 = .ok (.iadd, 1) := by decide +kernel
theorem d_La_law_473 : decode c_La_law 473 = .ok (.iaload, 1) := by decide +kernel
theorem d_La_law_474 : decode c_La_law 474 = .ok (.invokevirtual 88, 3) := by decide +kernel
theorem d_La_law_477 : decode c_La_law 477 = .ok (.istore 6, 2) := by decide +kernel
theorem d_La_law_479 : decode c_La_law 479 = .ok (.aload_n 2, 1) := by decide +kernel
theorem d_La_law_480 : decode c_La_law 480 = .ok (.invokevirtual 67, 3) := by decide +kernel
theorem d_La_law_483 : decode c_La_law 483 = .ok (.iload 5, 2) := by decide +kernel
theorem d_La_law_485 : decode c_La_law 485 = .ok (.if_icmp .eq 5, 3) := by decide +kernel
theorem d_La_law_488 : decode c_La_law 488 = .ok (.iconst 0, 1) := by decide +kernel
theorem d_La_law_489 : decode c_La_law 489 = .ok (.ireturn, 1) := by decide +kernel
theorem d_La_law_490 : decode c_La_law 490 = .ok (.iload 5, 2) := by decide +kernel
theorem d_La_law_492 : decode c_La_law 492 = .ok (.ifCond .ne 15, 3) := by decide +kernel
theorem d_La_law_495 : decode c_La_law 495 = .ok (.aload_n 3, 1) := by decide +kernel
theorem d_La_law_496 : decode c_La_law 496 = .ok (.iconst 0, 1) := by decide +kernel
theorem d_La_law_497 : decode c_La_law 497 = .ok (.laload, 1) := by decide +kernel
theorem d_La_law_498 : decode c_La_law 498 = .ok (.iload 6, 2) := by decide +kernel
theorem d_La_law_500 : decode c_La_law 500 = .ok (.i2l, 1) := by decide +kernel
theorem d_La_law_501 : decode c_La_law 501 = .ok (.lcmp, 1) := by decide +kernel
theorem d_La_law_502 : decode c_La_law 502 = .ok (.ifCond .eq 5, 3) := by decide +kernel
theorem d_La_law_505 : decode c_La_law 505 = .ok (.iconst 0, 1) := by decide +kernel
theorem d_La_law_506 : decode c_La_law 506 = .ok (.ireturn, 1) := by decide +kernel
theorem d_La_law_507 : decode c_La_law 507 = .ok (.goto 224, 3) := by decide +kernel
theorem d_La_law_510 : decode c_La_law 510 = .ok (.aload_n 1, 1) := by decide +kernel
theorem d_La_law_511 : decode c_La_law 511 = .ok (.aload_n 0, 1) := by decide +kernel
theorem d_La_law_512 : decode c_La_law 512 = .ok (.iload 4, 2) := by decide +kernel
theorem d_La_law_514 : decode c_La_law 514 = .ok (.iconst 1, 1) := by decide +kernel
theorem d_La_law_515 : decode c_La_law 515 = .ok (.iadd, 1) := by decide +kernel
theorem d_La_law_516 : decode c_La_law 516 = .ok (.iaload, 1) := by decide +kernel
theorem d_La_law_517 : decode c_La_law 517 = .ok (.aload_n 3, 1) := by decide +kernel
theorem d_La_law_518 : decode c_La_law 518 = .ok (.invokestatic 89, 3) := by decide +kernel
theorem d_La_law_521 : decode c_La_law 521 = .ok (.istore 5, 2) := by decide +kernel
theorem d_La_law_523 : decode c_La_law 523 = .ok (.aload_n 2, 1) := by decide +kernel
theorem d_La_law_524 : decode c_La_law 524 = .ok (.aload_n 0, 1) := by decide +kernel
theorem d_La_law_525 : decode c_La_law 525 = .ok (.iload 4, 2) := by decide +kernel
theorem d_La_law_527 : decode c_La_law 527 = .ok (.iconst 1, 1) := by decide +kernel
theorem d_La_law_528 : decode c_La_law 528 = .ok (.iadd, 1) := by decide +kernel
theorem d_La_law_529 : decode c_La_law 529 = .ok (.iaload, 1) := by decide +kernel
theorem d_La_law_530 : decode c_La_law 530 = .ok (.invokevirtual 91, 3) := by decide +kernel
theorem d_La_law_533 : decode c_La_law 533 = .ok (.lstore 6, 2) := by decide +kernel
theorem d_La_law_535 : decode c_La_law 535 = .ok (.aload_n 2, 1) := by decide +kernel
theorem d_La_law_536 : decode c_La_law 536 = .ok (.invokevirtual 67, 3) := by decide +kernel
theorem d_La_law_539 : decode c_La_law 539 = .ok (.iload 5, 2) := by decide +kernel
theorem d_La_law_541 : decode c_La_law 541 = .ok (.if_icmp .eq 5, 3) := by decide +kernel
theorem d_La_law_544 : decode c_La_law 544 = .ok (.iconst 0, 1) := by decide +kernel
theorem d_La_law_545 : decode c_La_law 545 = .ok (.ireturn, 1) := by decide +kernel
theorem d_La_law_546 : decode c_La_law 546 = .ok (.iload 5, 2) := by decide +kernel
theorem d_La_law_548 : decode c_La_law 548 = .ok (.ifCond .ne 14, 3) := by decide +kernel
theorem d_La_law_551 : decode c_La_law 551 = .ok (.aload_n 3, 1) := by decide +kernel
theorem d_La_law_552 : decode c_La_law 552 = .ok (.iconst 0, 1) := by decide +kernel
theorem d_La_law_553 : decode c_La_law 553 = .ok (.laload, 1) := by decide +kernel
theorem d_La_law_554 : decode c_La_law 554 = .ok (.lload 6, 2) := by decide +kernel
theorem d_La_law_556 : decode c_La_law 556 = .ok (.lcmp, 1) := by decide +kernel
theorem d_La_law_557 : decode c_La_law 557 = .ok (.ifCond .eq 5, 3) := by decide +kernel
theorem d_La_law_560 : decode c_La_law 560 = .ok (.iconst 0, 1) := by decide +kernel
theorem d_La_law_561 : decode c_La_law 561 = .ok (.ireturn, 1) := by decide +kernel
theorem d_La_law_562 : decode c_La_law 562 = .ok (.goto 169, 3) := by decide +kernel
theorem d_La_law_565 : decode c_La_law 565 = .ok (.aload_n 1, 1) := by decide +kernel
theorem d_La_law_566 : decode c_La_law 566 = .ok (.aload_n 0, 1) := by decide +kernel
theorem d_La_law_567 : decode c_La_law 567 = .ok (.iload 4, 2) := by decide +kernel
theorem d_La_law_569 : decode c_La_law 569 = .ok (.iconst 1, 1) := by decide +kernel
theorem d_La_law_570 : decode c_La_law 570 = .ok (.iadd, 1) := by decide +kernel
theorem d_La_law_571 : decode c_La_law 571 = .ok (.iaload, 1) := by decide +kernel
theorem d_La_law_572 : decode c_La_law 572 = .ok (.aload_n 3, 1) := by decide +kernel
theorem d_La_law_573 : decode c_La_law 573 = .ok (.invokestatic 92, 3) := by decide +kernel
theorem d_La_law_576 : decode c_La_law 576 = .ok (.istore 5, 2) := by decide +kernel
theorem d_La_law_578 : decode c_La_law 578 = .ok (.aload_n 2, 1) := by decide +kernel
theorem d_La_law_579 : decode c_La_law 579 = .ok (.aload_n 0, 1) := by decide +kernel
theorem d_La_law_580 : decode c_La_law 580 = .ok (.iload 4, 2) := by decide +kernel
theorem d_La_law_582 : decode c_La_law 582 = .ok (.iconst 1, 1) := by decide +kernel
theorem d_La_law_583 : decode c_La_law 583 = .ok (.iadd, 1) := by decide +kernel
theorem d_La_law_584 : decode c_La_law 584 = .ok (.iaload, 1) := by decide +kernel
theorem d_La_law_585 : decode c_La_law 585 = .ok (.invokevirtual 94, 3) := by decide +kernel
theorem d_La_law_588 : decode c_La_law 588 = .ok (.lstore 6, 2) := by decide +kernel
theorem d_La_law_590 : decode c_La_law 590 = .ok (.aload_n 2, 1) := by decide +kernel
theorem d_La_law_591 : decode c_La_law 591 = .ok (.invokevirtual 67, 3) := by decide +kernel
theorem d_La_law_594 : decode c_La_law 594 = .ok (.iload 5, 2) := by decide +kernel
theorem d_La_law_596 : decode c_La_law 596 = .ok (.if_icmp .eq 5, 3) := by decide +kernel
theorem d_La_law_599 : decode c_La_law 599 = .ok (.iconst 0, 1) := by decide +kernel
theorem d_La_law_600 : decode c_La_law 600 = .ok (.ireturn, 1) := by decide +kernel
theorem d_La_law_601 : decode c_La_law 601 = .ok (.iload 5, 2) := by decide +kernel
theorem d_La_law_603 : decode c_La_law 603 = .ok (.ifCond .ne 14, 3) := by decide +kernel
theorem d_La_law_606 : decode c_La_law 606 = .ok (.aload_n 3, 1) := by decide +kernel
theorem d_La_law_607 : decode c_La_law 607 = .ok (.iconst 0, 1) := by decide +kernel
theorem d_La_law_608 : decode c_La_law 608 = .ok (.laload, 1) := by decide +kernel
theorem d_La_law_609 : decode c_La_law 609 = .ok (.lload 6, 2) := by decide +kernel
theorem d_La_law_611 : decode c_La_law 611 = .ok (.lcmp, 1) := by decide +kernel
theorem d_La_law_612 : decode c_La_law 612 = .ok (.ifCond .eq 5, 3) := by decide +kernel
theorem d_La_law_615 : decode c_La_law 615 = .ok (.iconst 0, 1) := by decide +kernel
theorem d_La_law_616 : decode c_La_law 616 = .ok (.ireturn, 1) := by decide +kernel
theorem d_La_law_617 : decode c_La_law 617 = .ok (.goto 114, 3) := by decide +kernel
theorem d_La_law_620 : decode c_La_law 620 = .ok (.aload_n 1, 1) := by decide +kernel
theorem d_La_law_621 : decode c_La_law 621 = .ok (.aload_n 0, 1) := by decide +kernel
theorem d_La_law_622 : decode c_La_law 622 = .ok (.iload 4, 2) := by decide +kernel
theorem d_La_law_624 : decode c_La_law 624 = .ok (.iconst 1, 1) := by decide +kernel
theorem d_La_law_625 : decode c_La_law 625 = .ok (.iadd, 1) := by decide +kernel
theorem d_La_law_626 : decode c_La_law 626 = .ok (.iaload, 1) := by decide +kernel
theorem d_La_law_627 : decode c_La_law 627 = .ok (.aload_n 3, 1) := by decide +kernel
theorem d_La_law_628 : decode c_La_law 628 = .ok (.invokestatic 95, 3) := by decide +kernel
theorem d_La_law_631 : decode c_La_law 631 = .ok (.istore 5, 2) := by decide +kernel
theorem d_La_law_633 : decode c_La_law 633 = .ok (.aload_n 2, 1) := by decide +kernel
theorem d_La_law_634 : decode c_La_law 634 = .ok (.aload_n 0, 1) := by decide +kernel
theorem d_La_law_635 : decode c_La_law 635 = .ok (.iload 4, 2) := by decide +kernel
theorem d_La_law_637 : decode c_La_law 637 = .ok (.iconst 1, 1) := by decide +kernel
theorem d_La_law_638 : decode c_La_law 638 = .ok (.iadd, 1) := by decide +kernel
theorem d_La_law_639 : decode c_La_law 639 = .ok (.iaload, 1) := by decide +kernel
theorem d_La_law_640 : decode c_La_law 640 = .ok (.invokevirtual 97, 3) := by decide +kernel
theorem d_La_law_643 : decode c_La_law 643 = .ok (.lstore 6, 2) := by decide +kernel
theorem d_La_law_645 : decode c_La_law 645 = .ok (.aload_n 2, 1) := by decide +kernel
theorem d_La_law_646 : decode c_La_law 646 = .ok (.invokevirtual 67, 3) := by decide +kernel
theorem d_La_law_649 : decode c_La_law 649 = .ok (.iload 5, 2) := by decide +kernel
theorem d_La_law_651 : decode c_La_law 651 = .ok (.if_icmp .eq 5, 3) := by decide +kernel
theorem d_La_law_654 : decode c_La_law 654 = .ok (.iconst 0, 1) := by decide +kernel
theorem d_La_law_655 : decode c_La_law 655 = .ok (.ireturn, 1) := by decide +kernel
theorem d_La_law_656 : decode c_La_law 656 = .ok (.iload 5, 2) := by decide +kernel
theorem d_La_law_658 : decode c_La_law 658 = .ok (.ifCond .ne 14, 3) := by decide +kernel
theorem d_La_law_661 : decode c_La_law 661 = .ok (.aload_n 3, 1) := by decide +kernel
theorem d_La_law_662 : decode c_La_law 662 = .ok (.iconst 0, 1) := by decide +kernel
theorem d_La_law_663 : decode c_La_law 663 = .ok (.laload, 1) := by decide +kernel
theorem d_La_law_664 : decode c_La_law 664 = .ok (.lload 6, 2) := by decide +kernel
theorem d_La_law_666 : decode c_La_law 666 = .ok (.lcmp, 1) := by decide +kernel
theorem d_La_law_667 : decode c_La_law 667 = .ok (.ifCond .eq 5, 3) := by decide +kernel
theorem d_La_law_670 : decode c_La_law 670 = .ok (.iconst 0, 1) := by decide +kernel
theorem d_La_law_671 : decode c_La_law 671 = .ok (.ireturn, 1) := by decide +kernel
theorem d_La_law_672 : decode c_La_law 672 = .ok (.goto 59, 3) := by decide +kernel
theorem d_La_law_675 : decode c_La_law 675 = .ok (.aload_n 1, 1) := by decide +kernel
theorem d_La_law_676 : decode c_La_law 676 = .ok (.aload_n 0, 1) := by decide +kernel
theorem d_La_law_677 : decode c_La_law 677 = .ok (.iload 4, 2) := by decide +kernel
theorem d_La_law_679 : decode c_La_law 679 = .ok (.iconst 1, 1) := by decide +kernel
theorem d_La_law_680 : decode c_La_law 680 = .ok (.iadd, 1) := by decide +kernel
theorem d_La_law_681 : decode c_La_law 681 = .ok (.iaload, 1) := by decide +kernel
theorem d_La_law_682 : decode c_La_law 682 = .ok (.aload_n 3, 1) := by decide +kernel
theorem d_La_law_683 : decode c_La_law 683 = .ok (.invokestatic 98, 3) := by decide +kernel
theorem d_La_law_686 : decode c_La_law 686 = .ok (.istore 5, 2) := by decide +kernel
theorem d_La_law_688 : decode c_La_law 688 = .ok (.aload_n 2, 1) := by decide +kernel
theorem d_La_law_689 : decode c_La_law 689 = .ok (.aload_n 0, 1) := by decide +kernel
theorem d_La_law_690 : decode c_La_law 690 = .ok (.iload 4, 2) := by decide +kernel
theorem d_La_law_692 : decode c_La_law 692 = .ok (.iconst 1, 1) := by decide +kernel
theorem d_La_law_693 : decode c_La_law 693 = .ok (.iadd, 1) := by decide +kernel
theorem d_La_law_694 : decode c_La_law 694 = .ok (.iaload, 1) := by decide +kernel
theorem d_La_law_695 : decode c_La_law 695 = .ok (.invokevirtual 100, 3) := by decide +kernel
theorem d_La_law_698 : decode c_La_law 698 = .ok (.istore 6, 2) := by decide +kernel
theorem d_La_law_700 : decode c_La_law 700 = .ok (.aload_n 2, 1) := by decide +kernel
theorem d_La_law_701 : decode c_La_law 701 = .ok (.invokevirtual 67, 3) := by decide +kernel
theorem d_La_law_704 : decode c_La_law 704 = .ok (.iload 5, 2) := by decide +kernel
theorem d_La_law_706 : decode c_La_law 706 = .ok (.if_icmp .eq 5, 3) := by decide +kernel
theorem d_La_law_709 : decode c_La_law 709 = .ok (.iconst 0, 1) := by decide +kernel
theorem d_La_law_710 : decode c_La_law 710 = .ok (.ireturn, 1) := by decide +kernel
theorem d_La_law_711 : decode c_La_law 711 = .ok (.iload 5, 2) := by decide +kernel
theorem d_La_law_713 : decode c_La_law 713 = .ok (.ifCond .ne 15, 3) := by decide +kernel
theorem d_La_law_716 : decode c_La_law 716 = .ok (.aload_n 3, 1) := by decide +kernel
theorem d_La_law_717 : decode c_La_law 717 = .ok (.iconst 0, 1) := by decide +kernel
theorem d_La_law_718 : decode c_La_law 718 = .ok (.laload, 1) := by decide +kernel
theorem d_La_law_719 : decode c_La_law 719 = .ok (.iload 6, 2) := by decide +kernel
theorem d_La_law_721 : decode c_La_law 721 = .ok (.i2l, 1) := by decide +kernel
theorem d_La_law_722 : decode c_La_law 722 = .ok (.lcmp, 1) := by decide +kernel
theorem d_La_law_723 : decode c_La_law 723 = .ok (.ifCond .eq 5, 3) := by decide +kernel
theorem d_La_law_726 : decode c_La_law 726 = .ok (.iconst 0, 1) := by decide +kernel
theorem d_La_law_727 : decode c_La_law 727 = .ok (.ireturn, 1) := by decide +kernel
theorem d_La_law_728 : decode c_La_law 728 = .ok (.goto 3, 3) := by decide +kernel
theorem d_La_law_731 : decode c_La_law 731 = .ok (.iinc 4 6, 3) := by decide +kernel
theorem d_La_law_734 : decode c_La_law 734 = .ok (.goto (-711), 3) := by decide +kernel
theorem d_La_law_737 : decode c_La_law 737 = .ok (.iconst 1, 1) := by decide +kernel
theorem d_La_law_738 : decode c_La_law 738 = .ok (.ireturn, 1) := by decide +kernel
theorem d_Ar_fill2_0 : decode c_Ar_fill2 0 = .ok (.iconst 0, 1) := by decide +kernel
theorem d_Ar_fill2_1 : decode c_Ar_fill2 1 = .ok (.istore_n 2, 1) := by decide +kernel
theorem d_Ar_fill2_2 : decode c_Ar_fill2 2 = .ok (.aload_n 0, 1) := by decide +kernel
theorem d_Ar_fill2_3 : decode c_Ar_fill2 3 = .ok (.arraylength, 1) := by decide +kernel
theorem d_Ar_fill2_4 : decode c_Ar_fill2 4 = .ok (.istore_n 3, 1) := by decide +kernel
theorem d_Ar_fill2_5 : decode c_Ar_fill2 5 = .ok (.iload_n 2, 1) := by decide +kernel
theorem d_Ar_fill2_6 : decode c_Ar_fill2 6 = .ok (.iload_n 3, 1) := by decide +kernel
theorem d_Ar_fill2_7 : decode c_Ar_fill2 7 = .ok (.if_icmp .ge 13, 3) := by decide +kernel
theorem d_Ar_fill2_10 : decode c_Ar_fill2 10 = .ok (.aload_n 0, 1) := by decide +kernel
theorem d_Ar_fill2_11 : decode c_Ar_fill2 11 = .ok (.iload_n 2, 1) := by decide +kernel
theorem d_Ar_fill2_12 : decode c_Ar_fill2 12 = .ok (.iload_n 1, 1) := by decide +kernel
theorem d_Ar_fill2_13 : decode c_Ar_fill2 13 = .ok (.iastore, 1) := by decide +kernel
theorem d_Ar_fill2_14 : decode c_Ar_fill2 14 = .ok (.iinc 2 1, 3) := by decide +kernel
theorem d_Ar_fill2_17 : decode c_Ar_fill2 17 = .ok (.goto (-12), 3) := by decide +kernel
theorem d_Ar_fill2_20 : decode c_Ar_fill2 20 = .ok (.return_, 1) := by decide +kernel
theorem d_Ar_fill4_0 : decode c_Ar_fill4 0 = .ok (.aload_n 0, 1) := by decide +kernel
theorem d_Ar_fill4_1 : decode c_Ar_fill4 1 = .ok (.arraylength, 1) := by decide +kernel
theorem d_Ar_fill4_2 : decode c_Ar_fill4 2 = .ok (.iload_n 1, 1) := by decide +kernel
theorem d_Ar_fill4_3 : decode c_Ar_fill4 3 = .ok (.iload_n 2, 1) := by decide +kernel
theorem d_Ar_fill4_4 : decode c_Ar_fill4 4 = .ok (.invokestatic 13, 3) := by decide +kernel
theorem d_Ar_fill4_7 : decode c_Ar_fill4 7 = .ok (.iload_n 1, 1) := by decide +kernel
theorem d_Ar_fill4_8 : decode c_Ar_fill4 8 = .ok (.istore 4, 2) := by decide +kernel
theorem d_Ar_fill4_10 : decode c_Ar_fill4 10 = .ok (.iload 4, 2) := by decide +kernel
theorem d_Ar_fill4_12 : decode c_Ar_fill4 12 = .ok (.iload_n 2, 1) := by decide +kernel
theorem d_Ar_fill4_13 : decode c_Ar_fill4 13 = .ok (.if_icmp .ge 14, 3) := by decide +kernel
theorem d_Ar_fill4_16 : decode c_Ar_fill4 16 = .ok (.aload_n 0, 1) := by decide +kernel
theorem d_Ar_fill4_17 : decode c_Ar_fill4 17 = .ok (.iload 4, 2) := by decide +kernel
theorem d_Ar_fill4_19 : decode c_Ar_fill4 19 = .ok (.iload_n 3, 1) := by decide +kernel
theorem d_Ar_fill4_20 : decode c_Ar_fill4 20 = .ok (.iastore, 1) := by decide +kernel
theorem d_Ar_fill4_21 : decode c_Ar_fill4 21 = .ok (.iinc 4 1, 3) := by decide +kernel
theorem d_Ar_fill4_24 : decode c_Ar_fill4 24 = .ok (.goto (-14), 3) := by decide +kernel
theorem d_Ar_fill4_27 : decode c_Ar_fill4 27 = .ok (.return_, 1) := by decide +kernel
theorem d_Ar_rangeCheck_0 : decode c_Ar_rangeCheck 0 = .ok (.iload_n 1, 1) := by decide +kernel
theorem d_Ar_rangeCheck_1 : decode c_Ar_rangeCheck 1 = .ok (.iload_n 2, 1) := by decide +kernel
theorem d_Ar_rangeCheck_2 : decode c_Ar_rangeCheck 2 = .ok (.if_icmp .le 44, 3) := by decide +kernel
theorem d_Ar_rangeCheck_5 : decode c_Ar_rangeCheck 5 = .ok (.new 43, 3) := by decide +kernel
theorem d_Ar_rangeCheck_8 : decode c_Ar_rangeCheck 8 = .ok (.dup, 1) := by decide +kernel
theorem d_Ar_rangeCheck_9 : decode c_Ar_rangeCheck 9 = .ok (.new 45, 3) := by decide +kernel
theorem d_Ar_rangeCheck_12 : decode c_Ar_rangeCheck 12 = .ok (.dup, 1) := by decide +kernel
theorem d_Ar_rangeCheck_13 : decode c_Ar_rangeCheck 13 = .ok (.invokespecial 47, 3) := by decide +kernel
theorem d_Ar_rangeCheck_16 : decode c_Ar_rangeCheck 16 = .ok (.ldc 48, 2) := by decide +kernel
theorem d_Ar_rangeCheck_18 : decode c_Ar_rangeCheck 18 = .ok (.invokevirtual 50, 3) := by decide +kernel
theorem d_Ar_rangeCheck_21 : decode c_Ar_rangeCheck 21 = .ok (.iload_n 1, 1) := by decide +kernel
theorem d_Ar_rangeCheck_22 : decode c_Ar_rangeCheck 22 = .ok (.invokevirtual 54, 3) := by decide +kernel
theorem d_Ar_rangeCheck_25 : decode c_Ar_rangeCheck 25 = .ok (.ldc 57, 2) := by decide +kernel
theorem d_Ar_rangeCheck_27 : decode c_Ar_rangeCheck 27 = .ok (.invokevirtual 50, 3) := by decide +kernel
theorem d_Ar_rangeCheck_30 : decode c_Ar_rangeCheck 30 = .ok (.iload_n 2, 1) := by decide +kernel
theorem d_Ar_rangeCheck_31 : decode c_Ar_rangeCheck 31 = .ok (.invokevirtual 54, 3) := by decide +kernel
theorem d_Ar_rangeCheck_34 : decode c_Ar_rangeCheck 34 = .ok (.ldc 59, 2) := by decide +kernel
theorem d_Ar_rangeCheck_36 : decode c_Ar_rangeCheck 36 = .ok (.invokevirtual 50, 3) := by decide +kernel
theorem d_Ar_rangeCheck_39 : decode c_Ar_rangeCheck 39 = .ok (.invokevirtual 61, 3) := by decide +kernel
theorem d_Ar_rangeCheck_42 : decode c_Ar_rangeCheck 42 = .ok (.invokespecial 65, 3) := by decide +kernel
theorem d_Ar_rangeCheck_45 : decode c_Ar_rangeCheck 45 = .ok (.athrow, 1) := by decide +kernel
theorem d_Ar_rangeCheck_46 : decode c_Ar_rangeCheck 46 = .ok (.iload_n 1, 1) := by decide +kernel
theorem d_Ar_rangeCheck_47 : decode c_Ar_rangeCheck 47 = .ok (.ifCond .ge 12, 3) := by decide +kernel
theorem d_Ar_rangeCheck_50 : decode c_Ar_rangeCheck 50 = .ok (.new 68, 3) := by decide +kernel
theorem d_Ar_rangeCheck_53 : decode c_Ar_rangeCheck 53 = .ok (.dup, 1) := by decide +kernel
theorem d_Ar_rangeCheck_54 : decode c_Ar_rangeCheck 54 = .ok (.iload_n 1, 1) := by decide +kernel
theorem d_Ar_rangeCheck_55 : decode c_Ar_rangeCheck 55 = .ok (.invokespecial 70, 3) := by decide +kernel
theorem d_Ar_rangeCheck_58 : decode c_Ar_rangeCheck 58 = .ok (.athrow, 1) := by decide +kernel
theorem d_Ar_rangeCheck_59 : decode c_Ar_rangeCheck 59 = .ok (.iload_n 2, 1) := by decide +kernel
theorem d_Ar_rangeCheck_60 : decode c_Ar_rangeCheck 60 = .ok (.iload_n 0, 1) := by decide +kernel
theorem d_Ar_rangeCheck_61 : decode c_Ar_rangeCheck 61 = .ok (.if_icmp .le 12, 3) := by decide +kernel
theorem d_Ar_rangeCheck_64 : decode c_Ar_rangeCheck 64 = .ok (.new 68, 3) := by decide +kernel
theorem d_Ar_rangeCheck_67 : decode c_Ar_rangeCheck 67 = .ok (.dup, 1) := by decide +kernel
theorem d_Ar_rangeCheck_68 : decode c_Ar_rangeCheck 68 = .ok (.iload_n 2, 1) := by decide +kernel
theorem d_Ar_rangeCheck_69 : decode c_Ar_rangeCheck 69 = .ok (.invokespecial 70, 3) := by decide +kernel
theorem d_Ar_rangeCheck_72 : decode c_Ar_rangeCheck 72 = .ok (.athrow, 1) := by decide +kernel
theorem d_Ar_rangeCheck_73 : decode c_Ar_rangeCheck 73 = .ok (.return_, 1) := by decide +kernel
