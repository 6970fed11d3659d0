theorem c_159_0 : mm_code 159 0 = some (Instr.iconst 0, 1, 0, 0, 0, []) := rfl
theorem c_159_1 : mm_code 159 1 = some (Instr.istore_n 2, 1, 0, 0, 0, []) := rfl
theorem c_159_2 : mm_code 159 2 = some (Instr.iload_n 2, 1, 0, 0, 0, []) := rfl
theorem c_159_3 : mm_code 159 3 = some (Instr.aload_n 0, 1, 0, 0, 0, []) := rfl
theorem c_159_4 : mm_code 159 4 = some (Instr.getfield 160, 3, 0, 10, 11, [868]) := rfl
theorem c_159_7 : mm_code 159 7 = some (Instr.if_icmp .ge 21, 3, 0, 28, 0, []) := rfl
theorem c_159_10 : mm_code 159 10 = some (Instr.aload_n 0, 1, 0, 0, 0, []) := rfl
theorem c_159_11 : mm_code 159 11 = some (Instr.getfield 32, 3, 0, 10, 12, [869]) := rfl
theorem c_159_14 : mm_code 159 14 = some (Instr.iload_n 2, 1, 0, 0, 0, []) := rfl
theorem c_159_15 : mm_code 159 15 = some (Instr.iaload, 1, 0, 0, 0, []) := rfl
theorem c_159_16 : mm_code 159 16 = some (Instr.iload_n 1, 1, 0, 0, 0, []) := rfl
theorem c_159_17 : mm_code 159 17 = some (Instr.if_icmp .ne 5, 3, 0, 22, 0, []) := rfl
theorem c_159_20 : mm_code 159 20 = some (Instr.iload_n 2, 1, 0, 0, 0, []) := rfl
theorem c_159_21 : mm_code 159 21 = some (Instr.ireturn, 1, 0, 0, 0, []) := rfl
theorem c_159_22 : mm_code 159 22 = some (Instr.iinc 2 1, 3, 0, 0, 0, []) := rfl
theorem c_159_25 : mm_code 159 25 = some (Instr.goto (-23), 3, 0, 2, 0, []) := rfl
theorem c_159_28 : mm_code 159 28 = some (Instr.iconst (-1), 1, (-1), 0, 0, []) := rfl
theorem c_159_29 : mm_code 159 29 = some (Instr.ireturn, 1, 0, 0, 0, []) := rfl
theorem c_160_0 : mm_code 160 0 = some (Instr.iload_n 1, 1, 0, 0, 0, []) := rfl
theorem c_160_1 : mm_code 160 1 = some (Instr.sipush 4352, 3, 4352, 0, 0, []) := rfl
theorem c_160_4 : mm_code 160 4 = some (Instr.sipush 4370, 3, 4370, 0, 0, []) := rfl
theorem c_160_7 : mm_code 160 7 = some (Instr.invokestatic 116, 3, 0, 135, 3, [1022, 1023, 66, 1024]) := rfl
theorem c_160_10 : mm_code 160 10 = some (Instr.ifCond .eq 38, 3, 0, 48, 0, []) := rfl
theorem c_160_13 : mm_code 160 13 = some (Instr.iload_n 2, 1, 0, 0, 0, []) := rfl
theorem c_160_14 : mm_code 160 14 = some (Instr.sipush 4449, 3, 4449, 0, 0, []) := rfl
theorem c_160_17 : mm_code 160 17 = some (Instr.sipush 4469, 3, 4469, 0, 0, []) := rfl
theorem c_160_20 : mm_code 160 20 = some (Instr.invokestatic 116, 3, 0, 135, 3, [1022, 1023, 66, 1024]) := rfl
theorem c_160_23 : mm_code 160 23 = some (Instr.ifCond .eq 25, 3, 0, 48, 0, []) := rfl
theorem c_160_26 : mm_code 160 26 = some (Instr.ldc 152, 2, 44032, 0, 0, [1073]) := rfl
theorem c_160_28 : mm_code 160 28 = some (Instr.sipush 588, 3, 588, 0, 0, []) := rfl
theorem c_160_31 : mm_code 160 31 = some (Instr.iload_n 1, 1, 0, 0, 0, []) := rfl
theorem c_160_32 : mm_code 160 32 = some (Instr.sipush 4352, 3, 4352, 0, 0, []) := rfl
theorem c_160_35 : mm_code 160 35 = some (Instr.isub, 1, 0, 0, 0, []) := rfl
theorem c_160_36 : mm_code 160 36 = some (Instr.imul, 1, 0, 0, 0, []) := rfl
theorem c_160_37 : mm_code 160 37 = some (Instr.iadd, 1, 0, 0, 0, []) := rfl
theorem c_160_38 : mm_code 160 38 = some (Instr.bipush 28, 2, 28, 0, 0, []) := rfl
theorem c_160_40 : mm_code 160 40 = some (Instr.iload_n 2, 1, 0, 0, 0, []) := rfl
theorem c_160_41 : mm_code 160 41 = some (Instr.sipush 4449, 3, 4449, 0, 0, []) := rfl
theorem c_160_44 : mm_code 160 44 = some (Instr.isub, 1, 0, 0, 0, []) := rfl
theorem c_160_45 : mm_code 160 45 = some (Instr.imul, 1, 0, 0, 0, []) := rfl
theorem c_160_46 : mm_code 160 46 = some (Instr.iadd, 1, 0, 0, 0, []) := rfl
theorem c_160_47 : mm_code 160 47 = some (Instr.ireturn, 1, 0, 0, 0, []) := rfl
theorem c_160_48 : mm_code 160 48 = some (Instr.iload_n 1, 1, 0, 0, 0, []) := rfl
theorem c_160_49 : mm_code 160 49 = some (Instr.invokestatic 154, 3, 0, 147, 1, [1070, 1071, 66, 1072]) := rfl
theorem c_160_52 : mm_code 160 52 = some (Instr.ifCond .eq 34, 3, 0, 86, 0, []) := rfl
theorem c_160_55 : mm_code 160 55 = some (Instr.iload_n 1, 1, 0, 0, 0, []) := rfl
theorem c_160_56 : mm_code 160 56 = some (Instr.ldc 152, 2, 44032, 0, 0, [1073]) := rfl
theorem c_160_58 : mm_code 160 58 = some (Instr.isub, 1, 0, 0, 0, []) := rfl
theorem c_160_59 : mm_code 160 59 = some (Instr.bipush 28, 2, 28, 0, 0, []) := rfl
theorem c_160_61 : mm_code 160 61 = some (Instr.irem, 1, 0, 0, 0, []) := rfl
theorem c_160_62 : mm_code 160 62 = some (Instr.ifCond .ne 24, 3, 0, 86, 0, []) := rfl
theorem c_160_65 : mm_code 160 65 = some (Instr.iload_n 2, 1, 0, 0, 0, []) := rfl
theorem c_160_66 : mm_code 160 66 = some (Instr.sipush 4520, 3, 4520, 0, 0, []) := rfl
theorem c_160_69 : mm_code 160 69 = some (Instr.sipush 4546, 3, 4546, 0, 0, []) := rfl
theorem c_160_72 : mm_code 160 72 = some (Instr.invokestatic 116, 3, 0, 135, 3, [1022, 1023, 66, 1024]) := rfl
theorem c_160_75 : mm_code 160 75 = some (Instr.ifCond .eq 11, 3, 0, 86, 0, []) := rfl
theorem c_160_78 : mm_code 160 78 = some (Instr.iload_n 1, 1, 0, 0, 0, []) := rfl
theorem c_160_79 : mm_code 160 79 = some (Instr.iload_n 2, 1, 0, 0, 0, []) := rfl
theorem c_160_80 : mm_code 160 80 = some (Instr.iadd, 1, 0, 0, 0, []) := rfl
set_option maxRecDepth 100000 in theorem c_160_81 : mm_code 160 81 = some (Instr.sipush 4519, 3, 4519, 0, 0, []) := rfl
set_option maxRecDepth 100000 in theorem c_160_84 : mm_code 160 84 = some (Instr.isub, 1, 0, 0, 0, []) := rfl
set_option maxRecDepth 100000 in theorem c_160_85 : mm_code 160 85 = some (Instr.ireturn, 1, 0, 0, 0, []) := rfl
set_option maxRecDepth 100000 in theorem c_160_86 : mm_code 160 86 = some (Instr.iconst 0, 1, 0, 0, 0, []) := rfl
set_option maxRecDepth 100000 in theorem c_160_87 : mm_code 160 87 = some (Instr.istore_n 3, 1, 0, 0, 0, []) := rfl
set_option maxRecDepth 100000 in theorem c_160_88 : mm_code 160 88 = some (Instr.iload_n 3, 1, 0, 0, 0, []) := rfl
set_option maxRecDepth 100000 in theorem c_160_89 : mm_code 160 89 = some (Instr.aload_n 0, 1, 0, 0, 0, []) := rfl
set_option maxRecDepth 100000 in theorem c_160_90 : mm_code 160 90 = some (Instr.getfield 160, 3, 0, 10, 11, [868]) := rfl
set_option maxRecDepth 100000 in theorem c_160_93 : mm_code 160 93 = some (Instr.if_icmp .ge 54, 3, 0, 147, 0, []) := rfl
set_option maxRecDepth 100000 in theorem c_160_96 : mm_code 160 96 = some (Instr.aload_n 0, 1, 0, 0, 0, []) := rfl
set_option maxRecDepth 100000 in theorem c_160_97 : mm_code 160 97 = some (Instr.getfield 41, 3, 0, 10, 15, [872]) := rfl
set_option maxRecDepth 100000 in theorem c_160_100 : mm_code 160 100 = some (Instr.iload_n 3, 1, 0, 0, 0, []) := rfl
set_option maxRecDepth 100000 in theorem c_160_101 : mm_code 160 101 = some (Instr.baload, 1, 0, 0, 0, []) := rfl
set_option maxRecDepth 100000 in theorem c_160_102 : mm_code 160 102 = some (Instr.ifCond .ne 39, 3, 0, 141, 0, []) := rfl
set_option maxRecDepth 100000 in theorem c_160_105 : mm_code 160 105 = some (Instr.aload_n 0, 1, 0, 0, 0, []) := rfl
set_option maxRecDepth 100000 in theorem c_160_106 : mm_code 160 106 = some (Instr.getfield 38, 3, 0, 10, 14, [871]) := rfl
set_option maxRecDepth 100000 in theorem c_160_109 : mm_code 160 109 = some (Instr.iload_n 3, 1, 0, 0, 0, []) := rfl
set_option maxRecDepth 100000 in theorem c_160_110 : mm_code 160 110 = some (Instr.iaload, 1, 0, 0, 0, []) := rfl
set_option maxRecDepth 100000 in theorem c_160_111 : mm_code 160 111 = some (Instr.ifCond .eq 30, 3, 0, 141, 0, []) := rfl
set_option maxRecDepth 100000 in theorem c_160_114 : mm_code 160 114 = some (Instr.aload_n 0, 1, 0, 0, 0, []) := rfl
set_option maxRecDepth 100000 in theorem c_160_115 : mm_code 160 115 = some (Instr.getfield 35, 3, 0, 10, 13, [870]) := rfl
set_option maxRecDepth 100000 in theorem c_160_118 : mm_code 160 118 = some (Instr.iload_n 3, 1, 0, 0, 0, []) := rfl
set_option maxRecDepth 100000 in theorem c_160_119 : mm_code 160 119 = some (Instr.iaload, 1, 0, 0, 0, []) := rfl
set_option maxRecDepth 100000 in theorem c_160_120 : mm_code 160 120 = some (Instr.iload_n 1, 1, 0, 0, 0, []) := rfl
set_option maxRecDepth 100000 in theorem c_160_121 : mm_code 160 121 = some (Instr.if_icmp .ne 20, 3, 0, 141, 0, []) := rfl
set_option maxRecDepth 100000 in theorem c_160_124 : mm_code 160 124 = some (Instr.aload_n 0, 1, 0, 0, 0, []) := rfl
set_option maxRecDepth 100000 in theorem c_160_125 : mm_code 160 125 = some (Instr.getfield 38, 3, 0, 10, 14, [871]) := rfl
set_option maxRecDepth 100000 in theorem c_160_128 : mm_code 160 128 = some (Instr.iload_n 3, 1, 0, 0, 0, []) := rfl
set_option maxRecDepth 100000 in theorem c_160_129 : mm_code 160 129 = some (Instr.iaload, 1, 0, 0, 0, []) := rfl
set_option maxRecDepth 100000 in theorem c_160_130 : mm_code 160 130 = some (Instr.iload_n 2, 1, 0, 0, 0, []) := rfl
set_option maxRecDepth 100000 in theorem c_160_131 : mm_code 160 131 = some (Instr.if_icmp .ne 10, 3, 0, 141, 0, []) := rfl
set_option maxRecDepth 100000 in theorem c_160_134 : mm_code 160 134 = some (Instr.aload_n 0, 1, 0, 0, 0, []) := rfl
set_option maxRecDepth 100000 in theorem c_160_135 : mm_code 160 135 = some (Instr.getfield 32, 3, 0, 10, 12, [869]) := rfl
set_option maxRecDepth 100000 in theorem c_160_138 : mm_code 160 138 = some (Instr.iload_n 3, 1, 0, 0, 0, []) := rfl
set_option maxRecDepth 100000 in theorem c_160_139 : mm_code 160 139 = some (Instr.iaload, 1, 0, 0, 0, []) := rfl
set_option maxRecDepth 100000 in theorem c_160_140 : mm_code 160 140 = some (Instr.ireturn, 1, 0, 0, 0, []) := rfl
set_option maxRecDepth 100000 in theorem c_160_141 : mm_code 160 141 = some (Instr.iinc 3 1, 3, 0, 0, 0, []) := rfl
set_option maxRecDepth 100000 in theorem c_160_144 : mm_code 160 144 = some (Instr.goto (-56), 3, 0, 88, 0, []) := rfl
set_option maxRecDepth 100000 in theorem c_160_147 : mm_code 160 147 = some (Instr.iconst (-1), 1, (-1), 0, 0, []) := rfl
set_option maxRecDepth 100000 in theorem c_160_148 : mm_code 160 148 = some (Instr.ireturn, 1, 0, 0, 0, []) := rfl
theorem c_161_0 : mm_code 161 0 = some (Instr.aload_n 0, 1, 0, 0, 0, []) := rfl
theorem c_161_1 : mm_code 161 1 = some (Instr.iconst 0, 1, 0, 0, 0, []) := rfl
theorem c_161_2 : mm_code 161 2 = some (Instr.putfield 112, 3, 1, 10, 0, [857]) := rfl
theorem c_161_5 : mm_code 161 5 = some (Instr.aload_n 0, 1, 0, 0, 0, []) := rfl
theorem c_161_6 : mm_code 161 6 = some (Instr.aload_n 0, 1, 0, 0, 0, []) := rfl
theorem c_161_7 : mm_code 161 7 = some (Instr.getfield 13, 3, 0, 10, 3, [860]) := rfl
theorem c_161_10 : mm_code 161 10 = some (Instr.iconst 0, 1, 0, 0, 0, []) := rfl
theorem c_161_11 : mm_code 161 11 = some (Instr.aload_n 0, 1, 0, 0, 0, []) := rfl
theorem c_161_12 : mm_code 161 12 = some (Instr.getfield 108, 3, 0, 10, 4, [861]) := rfl
theorem c_161_15 : mm_code 161 15 = some (Instr.invokevirtual 198, 3, 10, 157, 3, [1111, 1113, 32, 66, 1114]) := rfl
theorem c_161_18 : mm_code 161 18 = some (Instr.ifCond .eq 23, 3, 0, 41, 0, []) := rfl
theorem c_161_21 : mm_code 161 21 = some (Instr.aload_n 0, 1, 0, 0, 0, []) := rfl
theorem c_161_22 : mm_code 161 22 = some (Instr.aload_n 0, 1, 0, 0, 0, []) := rfl
theorem c_161_23 : mm_code 161 23 = some (Instr.getfield 13, 3, 0, 10, 3, [860]) := rfl
theorem c_161_26 : mm_code 161 26 = some (Instr.iconst 0, 1, 0, 0, 0, []) := rfl
theorem c_161_27 : mm_code 161 27 = some (Instr.aload_n 0, 1, 0, 0, 0, []) := rfl
theorem c_161_28 : mm_code 161 28 = some (Instr.getfield 108, 3, 0, 10, 4, [861]) := rfl
theorem c_161_31 : mm_code 161 31 = some (Instr.invokevirtual 201, 3, 10, 162, 3, [1131, 1133, 36, 66, 1134]) := rfl
theorem c_161_34 : mm_code 161 34 = some (Instr.ifCond .ge 7, 3, 0, 41, 0, []) := rfl
theorem c_161_37 : mm_code 161 37 = some (Instr.iconst 1, 1, 1, 0, 0, []) := rfl
theorem c_161_38 : mm_code 161 38 = some (Instr.goto 4, 3, 0, 42, 0, []) := rfl
theorem c_161_41 : mm_code 161 41 = some (Instr.iconst 0, 1, 0, 0, 0, []) := rfl
theorem c_161_42 : mm_code 161 42 = some (Instr.ireturn, 1, 0, 0, 0, []) := rfl
theorem c_162_0 : mm_code 162 0 = some (Instr.iconst 0, 1, 0, 0, 0, []) := rfl
theorem c_162_1 : mm_code 162 1 = some (Instr.istore 4, 2, 0, 0, 0, []) := rfl
theorem c_162_3 : mm_code 162 3 = some (Instr.iload 4, 2, 0, 0, 0, []) := rfl
theorem c_162_5 : mm_code 162 5 = some (Instr.iload_n 3, 1, 0, 0, 0, []) := rfl
theorem c_162_6 : mm_code 162 6 = some (Instr.if_icmp .ge 34, 3, 0, 40, 0, []) := rfl
theorem c_162_9 : mm_code 162 9 = some (Instr.iload 4, 2, 0, 0, 0, []) := rfl
theorem c_162_11 : mm_code 162 11 = some (Instr.aload_n 0, 1, 0, 0, 0, []) := rfl
theorem c_162_12 : mm_code 162 12 = some (Instr.getfield 192, 3, 0, 10, 31, [888]) := rfl
theorem c_162_15 : mm_code 162 15 = some (Instr.if_icmp .ge 25, 3, 0, 40, 0, []) := rfl
theorem c_162_18 : mm_code 162 18 = some (Instr.aload_n 1, 1, 0, 0, 0, []) := rfl
theorem c_162_19 : mm_code 162 19 = some (Instr.iload_n 2, 1, 0, 0, 0, []) := rfl
theorem c_162_20 : mm_code 162 20 = some (Instr.iload 4, 2, 0, 0, 0, []) := rfl
theorem c_162_22 : mm_code 162 22 = some (Instr.iadd, 1, 0, 0, 0, []) := rfl
theorem c_162_23 : mm_code 162 23 = some (Instr.iaload, 1, 0, 0, 0, []) := rfl
theorem c_162_24 : mm_code 162 24 = some (Instr.aload_n 0, 1, 0, 0, 0, []) := rfl
theorem c_162_25 : mm_code 162 25 = some (Instr.getfield 72, 3, 0, 10, 30, [887]) := rfl
theorem c_162_28 : mm_code 162 28 = some (Instr.iload 4, 2, 0, 0, 0, []) := rfl
theorem c_162_30 : mm_code 162 30 = some (Instr.iaload, 1, 0, 0, 0, []) := rfl
theorem c_162_31 : mm_code 162 31 = some (Instr.if_icmp .ne 9, 3, 0, 40, 0, []) := rfl
theorem c_162_34 : mm_code 162 34 = some (Instr.iinc 4 1, 3, 0, 0, 0, []) := rfl
theorem c_162_37 : mm_code 162 37 = some (Instr.goto (-34), 3, 0, 3, 0, []) := rfl
theorem c_162_40 : mm_code 162 40 = some (Instr.iload 4, 2, 0, 0, 0, []) := rfl
theorem c_162_42 : mm_code 162 42 = some (Instr.iload_n 3, 1, 0, 0, 0, []) := rfl
theorem c_162_43 : mm_code 162 43 = some (Instr.if_icmp .ne 16, 3, 0, 59, 0, []) := rfl
theorem c_162_46 : mm_code 162 46 = some (Instr.iload 4, 2, 0, 0, 0, []) := rfl
theorem c_162_48 : mm_code 162 48 = some (Instr.aload_n 0, 1, 0, 0, 0, []) := rfl
theorem c_162_49 : mm_code 162 49 = some (Instr.getfield 192, 3, 0, 10, 31, [888]) := rfl
theorem c_162_52 : mm_code 162 52 = some (Instr.if_icmp .ne 7, 3, 0, 59, 0, []) := rfl
theorem c_162_55 : mm_code 162 55 = some (Instr.iconst (-1), 1, (-1), 0, 0, []) := rfl
theorem c_162_56 : mm_code 162 56 = some (Instr.goto 5, 3, 0, 61, 0, []) := rfl
theorem c_162_59 : mm_code 162 59 = some (Instr.iload 4, 2, 0, 0, 0, []) := rfl
theorem c_162_61 : mm_code 162 61 = some (Instr.ireturn, 1, 0, 0, 0, []) := rfl
theorem c_163_0 : mm_code 163 0 = some (Instr.aload_n 0, 1, 0, 0, 0, []) := rfl
theorem c_163_1 : mm_code 163 1 = some (Instr.iconst 0, 1, 0, 0, 0, []) := rfl
theorem c_163_2 : mm_code 163 2 = some (Instr.putfield 112, 3, 1, 10, 0, [857]) := rfl
theorem c_163_5 : mm_code 163 5 = some (Instr.aload_n 0, 1, 0, 0, 0, []) := rfl
theorem c_163_6 : mm_code 163 6 = some (Instr.invokevirtual 135, 3, 10, 137, 0, [1029, 1031, 24, 66, 1032]) := rfl
theorem c_163_9 : mm_code 163 9 = some (Instr.aload_n 0, 1, 0, 0, 0, []) := rfl
theorem c_163_10 : mm_code 163 10 = some (Instr.getfield 128, 3, 0, 10, 26, [883]) := rfl
theorem c_163_13 : mm_code 163 13 = some (Instr.bipush (-2), 2, (-2), 0, 0, []) := rfl
theorem c_163_15 : mm_code 163 15 = some (Instr.if_icmp .ne 6, 3, 0, 21, 0, []) := rfl
theorem c_163_18 : mm_code 163 18 = some (Instr.bipush (-4), 2, (-4), 0, 0, []) := rfl
theorem c_163_20 : mm_code 163 20 = some (Instr.ireturn, 1, 0, 0, 0, []) := rfl
theorem c_163_21 : mm_code 163 21 = some (Instr.aload_n 0, 1, 0, 0, 0, []) := rfl
theorem c_163_22 : mm_code 163 22 = some (Instr.getfield 128, 3, 0, 10, 26, [883]) := rfl
theorem c_163_25 : mm_code 163 25 = some (Instr.ifCond .lt 11, 3, 0, 36, 0, []) := rfl
theorem c_163_28 : mm_code 163 28 = some (Instr.bipush (-10), 2, (-10), 0, 0, []) := rfl
theorem c_163_30 : mm_code 163 30 = some (Instr.aload_n 0, 1, 0, 0, 0, []) := rfl
theorem c_163_31 : mm_code 163 31 = some (Instr.getfield 128, 3, 0, 10, 26, [883]) := rfl
theorem c_163_34 : mm_code 163 34 = some (Instr.isub, 1, 0, 0, 0, []) := rfl
theorem c_163_35 : mm_code 163 35 = some (Instr.ireturn, 1, 0, 0, 0, []) := rfl
theorem c_163_36 : mm_code 163 36 = some (Instr.aload_n 0, 1, 0, 0, 0, []) := rfl
theorem c_163_37 : mm_code 163 37 = some (Instr.aload_n 0, 1, 0, 0, 0, []) := rfl
theorem c_163_38 : mm_code 163 38 = some (Instr.getfield 63, 3, 0, 10, 24, [881]) := rfl
theorem c_163_41 : mm_code 163 41 = some (Instr.iconst 0, 1, 0, 0, 0, []) := rfl
theorem c_163_42 : mm_code 163 42 = some (Instr.aload_n 0, 1, 0, 0, 0, []) := rfl
theorem c_163_43 : mm_code 163 43 = some (Instr.getfield 125, 3, 0, 10, 25, [882]) := rfl
theorem c_163_46 : mm_code 163 46 = some (Instr.invokevirtual 188, 3, 10, 158, 3, [1115, 1117, 33, 66, 1118]) := rfl
theorem c_163_49 : mm_code 163 49 = some (Instr.ifCond .ne 6, 3, 0, 55, 0, []) := rfl
theorem c_163_52 : mm_code 163 52 = some (Instr.bipush (-4), 2, (-4), 0, 0, []) := rfl
theorem c_163_54 : mm_code 163 54 = some (Instr.ireturn, 1, 0, 0, 0, []) := rfl
theorem c_163_55 : mm_code 163 55 = some (Instr.aload_n 0, 1, 0, 0, 0, []) := rfl
theorem c_163_56 : mm_code 163 56 = some (Instr.getfield 182, 3, 0, 10, 28, [885]) := rfl
theorem c_163_59 : mm_code 163 59 = some (Instr.istore_n 1, 1, 0, 0, 0, []) := rfl
theorem c_163_60 : mm_code 163 60 = some (Instr.iconst 0, 1, 0, 0, 0, []) := rfl
theorem c_163_61 : mm_code 163 61 = some (Instr.istore_n 2, 1, 0, 0, 0, []) := rfl
theorem c_163_62 : mm_code 163 62 = some (Instr.iload_n 2, 1, 0, 0, 0, []) := rfl
theorem c_163_63 : mm_code 163 63 = some (Instr.iload_n 1, 1, 0, 0, 0, []) := rfl
theorem c_163_64 : mm_code 163 64 = some (Instr.if_icmp .ge 21, 3, 0, 85, 0, []) := rfl
theorem c_163_67 : mm_code 163 67 = some (Instr.aload_n 0, 1, 0, 0, 0, []) := rfl
theorem c_163_68 : mm_code 163 68 = some (Instr.getfield 75, 3, 0, 10, 32, [889]) := rfl
theorem c_163_71 : mm_code 163 71 = some (Instr.iload_n 2, 1, 0, 0, 0, []) := rfl
theorem c_163_72 : mm_code 163 72 = some (Instr.aload_n 0, 1, 0, 0, 0, []) := rfl
set_option maxRecDepth 100000 in theorem c_163_73 : mm_code 163 73 = some (Instr.getfield 66, 3, 0, 10, 27, [884]) := rfl
set_option maxRecDepth 100000 in theorem c_163_76 : mm_code 163 76 = some (Instr.iload_n 2, 1, 0, 0, 0, []) := rfl
set_option maxRecDepth 100000 in theorem c_163_77 : mm_code 163 77 = some (Instr.iaload, 1, 0, 0, 0, []) := rfl
set_option maxRecDepth 100000 in theorem c_163_78 : mm_code 163 78 = some (Instr.iastore, 1, 0, 0, 0, []) := rfl
set_option maxRecDepth 100000 in theorem c_163_79 : mm_code 163 79 = some (Instr.iinc 2 1, 3, 0, 0, 0, []) := rfl
set_option maxRecDepth 100000 in theorem c_163_82 : mm_code 163 82 = some (Instr.goto (-20), 3, 0, 62, 0, []) := rfl
set_option maxRecDepth 100000 in theorem c_163_85 : mm_code 163 85 = some (Instr.aload_n 0, 1, 0, 0, 0, []) := rfl
set_option maxRecDepth 100000 in theorem c_163_86 : mm_code 163 86 = some (Instr.aload_n 0, 1, 0, 0, 0, []) := rfl
set_option maxRecDepth 100000 in theorem c_163_87 : mm_code 163 87 = some (Instr.getfield 13, 3, 0, 10, 3, [860]) := rfl
set_option maxRecDepth 100000 in theorem c_163_90 : mm_code 163 90 = some (Instr.iconst 0, 1, 0, 0, 0, []) := rfl
set_option maxRecDepth 100000 in theorem c_163_91 : mm_code 163 91 = some (Instr.aload_n 0, 1, 0, 0, 0, []) := rfl
set_option maxRecDepth 100000 in theorem c_163_92 : mm_code 163 92 = some (Instr.getfield 108, 3, 0, 10, 4, [861]) := rfl
set_option maxRecDepth 100000 in theorem c_163_95 : mm_code 163 95 = some (Instr.invokevirtual 188, 3, 10, 158, 3, [1115, 1117, 33, 66, 1118]) := rfl
set_option maxRecDepth 100000 in theorem c_163_98 : mm_code 163 98 = some (Instr.ifCond .ne 6, 3, 0, 104, 0, []) := rfl
set_option maxRecDepth 100000 in theorem c_163_101 : mm_code 163 101 = some (Instr.bipush (-4), 2, (-4), 0, 0, []) := rfl
set_option maxRecDepth 100000 in theorem c_163_103 : mm_code 163 103 = some (Instr.ireturn, 1, 0, 0, 0, []) := rfl
set_option maxRecDepth 100000 in theorem c_163_104 : mm_code 163 104 = some (Instr.iload_n 1, 1, 0, 0, 0, []) := rfl
set_option maxRecDepth 100000 in theorem c_163_105 : mm_code 163 105 = some (Instr.aload_n 0, 1, 0, 0, 0, []) := rfl
set_option maxRecDepth 100000 in theorem c_163_106 : mm_code 163 106 = some (Instr.getfield 182, 3, 0, 10, 28, [885]) := rfl
set_option maxRecDepth 100000 in theorem c_163_109 : mm_code 163 109 = some (Instr.if_icmp .ne 7, 3, 0, 116, 0, []) := rfl
set_option maxRecDepth 100000 in theorem c_163_112 : mm_code 163 112 = some (Instr.iconst 1, 1, 1, 0, 0, []) := rfl
set_option maxRecDepth 100000 in theorem c_163_113 : mm_code 163 113 = some (Instr.goto 4, 3, 0, 117, 0, []) := rfl
set_option maxRecDepth 100000 in theorem c_163_116 : mm_code 163 116 = some (Instr.iconst 0, 1, 0, 0, 0, []) := rfl
set_option maxRecDepth 100000 in theorem c_163_117 : mm_code 163 117 = some (Instr.istore_n 2, 1, 0, 0, 0, []) := rfl
set_option maxRecDepth 100000 in theorem c_163_118 : mm_code 163 118 = some (Instr.iconst 0, 1, 0, 0, 0, []) := rfl
set_option maxRecDepth 100000 in theorem c_163_119 : mm_code 163 119 = some (Instr.istore_n 3, 1, 0, 0, 0, []) := rfl
set_option maxRecDepth 100000 in theorem c_163_120 : mm_code 163 120 = some (Instr.iload_n 3, 1, 0, 0, 0, []) := rfl
set_option maxRecDepth 100000 in theorem c_163_121 : mm_code 163 121 = some (Instr.iload_n 1, 1, 0, 0, 0, []) := rfl
set_option maxRecDepth 100000 in theorem c_163_122 : mm_code 163 122 = some (Instr.if_icmp .ge 34, 3, 0, 156, 0, []) := rfl
set_option maxRecDepth 100000 in theorem c_163_125 : mm_code 163 125 = some (Instr.iload_n 2, 1, 0, 0, 0, []) := rfl
set_option maxRecDepth 100000 in theorem c_163_126 : mm_code 163 126 = some (Instr.ifCond .eq 30, 3, 0, 156, 0, []) := rfl
set_option maxRecDepth 100000 in theorem c_163_129 : mm_code 163 129 = some (Instr.aload_n 0, 1, 0, 0, 0, []) := rfl
set_option maxRecDepth 100000 in theorem c_163_130 : mm_code 163 130 = some (Instr.getfield 75, 3, 0, 10, 32, [889]) := rfl
set_option maxRecDepth 100000 in theorem c_163_133 : mm_code 163 133 = some (Instr.iload_n 3, 1, 0, 0, 0, []) := rfl
set_option maxRecDepth 100000 in theorem c_163_134 : mm_code 163 134 = some (Instr.iaload, 1, 0, 0, 0, []) := rfl
set_option maxRecDepth 100000 in theorem c_163_135 : mm_code 163 135 = some (Instr.aload_n 0, 1, 0, 0, 0, []) := rfl
set_option maxRecDepth 100000 in theorem c_163_136 : mm_code 163 136 = some (Instr.getfield 66, 3, 0, 10, 27, [884]) := rfl
set_option maxRecDepth 100000 in theorem c_163_139 : mm_code 163 139 = some (Instr.iload_n 3, 1, 0, 0, 0, []) := rfl
set_option maxRecDepth 100000 in theorem c_163_140 : mm_code 163 140 = some (Instr.iaload, 1, 0, 0, 0, []) := rfl
set_option maxRecDepth 100000 in theorem c_163_141 : mm_code 163 141 = some (Instr.if_icmp .ne 7, 3, 0, 148, 0, []) := rfl
set_option maxRecDepth 100000 in theorem c_163_144 : mm_code 163 144 = some (Instr.iconst 1, 1, 1, 0, 0, []) := rfl
set_option maxRecDepth 100000 in theorem c_163_145 : mm_code 163 145 = some (Instr.goto 4, 3, 0, 149, 0, []) := rfl
set_option maxRecDepth 100000 in theorem c_163_148 : mm_code 163 148 = some (Instr.iconst 0, 1, 0, 0, 0, []) := rfl
set_option maxRecDepth 100000 in theorem c_163_149 : mm_code 163 149 = some (Instr.istore_n 2, 1, 0, 0, 0, []) := rfl
set_option maxRecDepth 100000 in theorem c_163_150 : mm_code 163 150 = some (Instr.iinc 3 1, 3, 0, 0, 0, []) := rfl
set_option maxRecDepth 100000 in theorem c_163_153 : mm_code 163 153 = some (Instr.goto (-33), 3, 0, 120, 0, []) := rfl
set_option maxRecDepth 100000 in theorem c_163_156 : mm_code 163 156 = some (Instr.iload_n 2, 1, 0, 0, 0, []) := rfl
set_option maxRecDepth 100000 in theorem c_163_157 : mm_code 163 157 = some (Instr.ifCond .eq 7, 3, 0, 164, 0, []) := rfl
set_option maxRecDepth 100000 in theorem c_163_160 : mm_code 163 160 = some (Instr.iconst 1, 1, 1, 0, 0, []) := rfl
set_option maxRecDepth 100000 in theorem c_163_161 : mm_code 163 161 = some (Instr.goto 4, 3, 0, 165, 0, []) := rfl
set_option maxRecDepth 100000 in theorem c_163_164 : mm_code 163 164 = some (Instr.iconst 0, 1, 0, 0, 0, []) := rfl
set_option maxRecDepth 100000 in theorem c_163_165 : mm_code 163 165 = some (Instr.ireturn, 1, 0, 0, 0, []) := rfl
theorem c_164_0 : mm_code 164 0 = some (Instr.aload_n 0, 1, 0, 0, 0, []) := rfl
theorem c_164_1 : mm_code 164 1 = some (Instr.iconst 0, 1, 0, 0, 0, []) := rfl
theorem c_164_2 : mm_code 164 2 = some (Instr.putfield 112, 3, 1, 10, 0, [857]) := rfl
theorem c_164_5 : mm_code 164 5 = some (Instr.aload_n 0, 1, 0, 0, 0, []) := rfl
theorem c_164_6 : mm_code 164 6 = some (Instr.aload_n 0, 1, 0, 0, 0, []) := rfl
theorem c_164_7 : mm_code 164 7 = some (Instr.getfield 13, 3, 0, 10, 3, [860]) := rfl
theorem c_164_10 : mm_code 164 10 = some (Instr.iconst 0, 1, 0, 0, 0, []) := rfl
theorem c_164_11 : mm_code 164 11 = some (Instr.aload_n 0, 1, 0, 0, 0, []) := rfl
theorem c_164_12 : mm_code 164 12 = some (Instr.getfield 108, 3, 0, 10, 4, [861]) := rfl
theorem c_164_15 : mm_code 164 15 = some (Instr.invokevirtual 241, 3, 10, 165, 3, [1143, 1145, 37, 66, 1146]) := rfl
theorem c_164_18 : mm_code 164 18 = some (Instr.ifCond .eq 13, 3, 0, 31, 0, []) := rfl
theorem c_164_21 : mm_code 164 21 = some (Instr.aload_n 0, 1, 0, 0, 0, []) := rfl
theorem c_164_22 : mm_code 164 22 = some (Instr.getfield 217, 3, 0, 10, 34, [891]) := rfl
theorem c_164_25 : mm_code 164 25 = some (Instr.sipush 300, 3, 300, 0, 0, []) := rfl
theorem c_164_28 : mm_code 164 28 = some (Instr.if_icmp .le 6, 3, 0, 34, 0, []) := rfl
theorem c_164_31 : mm_code 164 31 = some (Instr.bipush (-4), 2, (-4), 0, 0, []) := rfl
theorem c_164_33 : mm_code 164 33 = some (Instr.ireturn, 1, 0, 0, 0, []) := rfl
theorem c_164_34 : mm_code 164 34 = some (Instr.aload_n 0, 1, 0, 0, 0, []) := rfl
theorem c_164_35 : mm_code 164 35 = some (Instr.aload_n 0, 1, 0, 0, 0, []) := rfl
theorem c_164_36 : mm_code 164 36 = some (Instr.getfield 217, 3, 0, 10, 34, [891]) := rfl
theorem c_164_39 : mm_code 164 39 = some (Instr.putfield 108, 3, 1, 10, 4, [861]) := rfl
theorem c_164_42 : mm_code 164 42 = some (Instr.iconst 0, 1, 0, 0, 0, []) := rfl
theorem c_164_43 : mm_code 164 43 = some (Instr.istore_n 1, 1, 0, 0, 0, []) := rfl
theorem c_164_44 : mm_code 164 44 = some (Instr.iload_n 1, 1, 0, 0, 0, []) := rfl
theorem c_164_45 : mm_code 164 45 = some (Instr.aload_n 0, 1, 0, 0, 0, []) := rfl
theorem c_164_46 : mm_code 164 46 = some (Instr.getfield 108, 3, 0, 10, 4, [861]) := rfl
theorem c_164_49 : mm_code 164 49 = some (Instr.if_icmp .ge 21, 3, 0, 70, 0, []) := rfl
theorem c_164_52 : mm_code 164 52 = some (Instr.aload_n 0, 1, 0, 0, 0, []) := rfl
theorem c_164_53 : mm_code 164 53 = some (Instr.getfield 13, 3, 0, 10, 3, [860]) := rfl
theorem c_164_56 : mm_code 164 56 = some (Instr.iload_n 1, 1, 0, 0, 0, []) := rfl
theorem c_164_57 : mm_code 164 57 = some (Instr.aload_n 0, 1, 0, 0, 0, []) := rfl
theorem c_164_58 : mm_code 164 58 = some (Instr.getfield 78, 3, 0, 10, 33, [890]) := rfl
theorem c_164_61 : mm_code 164 61 = some (Instr.iload_n 1, 1, 0, 0, 0, []) := rfl
theorem c_164_62 : mm_code 164 62 = some (Instr.iaload, 1, 0, 0, 0, []) := rfl
theorem c_164_63 : mm_code 164 63 = some (Instr.iastore, 1, 0, 0, 0, []) := rfl
theorem c_164_64 : mm_code 164 64 = some (Instr.iinc 1 1, 3, 0, 0, 0, []) := rfl
theorem c_164_67 : mm_code 164 67 = some (Instr.goto (-23), 3, 0, 44, 0, []) := rfl
theorem c_164_70 : mm_code 164 70 = some (Instr.aload_n 0, 1, 0, 0, 0, []) := rfl
theorem c_164_71 : mm_code 164 71 = some (Instr.getfield 108, 3, 0, 10, 4, [861]) := rfl
theorem c_164_74 : mm_code 164 74 = some (Instr.ireturn, 1, 0, 0, 0, []) := rfl
theorem c_165_0 : mm_code 165 0 = some (Instr.aload_n 0, 1, 0, 0, 0, []) := rfl
theorem c_165_1 : mm_code 165 1 = some (Instr.iconst 0, 1, 0, 0, 0, []) := rfl
theorem c_165_2 : mm_code 165 2 = some (Instr.putfield 217, 3, 1, 10, 34, [891]) := rfl
theorem c_165_5 : mm_code 165 5 = some (Instr.iconst 0, 1, 0, 0, 0, []) := rfl
theorem c_165_6 : mm_code 165 6 = some (Instr.istore 4, 2, 0, 0, 0, []) := rfl
theorem c_165_8 : mm_code 165 8 = some (Instr.iload 4, 2, 0, 0, 0, []) := rfl
theorem c_165_10 : mm_code 165 10 = some (Instr.iload_n 3, 1, 0, 0, 0, []) := rfl
theorem c_165_11 : mm_code 165 11 = some (Instr.if_icmp .ge 31, 3, 0, 42, 0, []) := rfl
theorem c_165_14 : mm_code 165 14 = some (Instr.aload_n 1, 1, 0, 0, 0, []) := rfl
theorem c_165_15 : mm_code 165 15 = some (Instr.iload_n 2, 1, 0, 0, 0, []) := rfl
theorem c_165_16 : mm_code 165 16 = some (Instr.iload 4, 2, 0, 0, 0, []) := rfl
theorem c_165_18 : mm_code 165 18 = some (Instr.iadd, 1, 0, 0, 0, []) := rfl
theorem c_165_19 : mm_code 165 19 = some (Instr.iaload, 1, 0, 0, 0, []) := rfl
theorem c_165_20 : mm_code 165 20 = some (Instr.sipush 128, 3, 128, 0, 0, []) := rfl
theorem c_165_23 : mm_code 165 23 = some (Instr.if_icmp .ge 13, 3, 0, 36, 0, []) := rfl
theorem c_165_26 : mm_code 165 26 = some (Instr.aload_n 0, 1, 0, 0, 0, []) := rfl
theorem c_165_27 : mm_code 165 27 = some (Instr.aload_n 1, 1, 0, 0, 0, []) := rfl
theorem c_165_28 : mm_code 165 28 = some (Instr.iload_n 2, 1, 0, 0, 0, []) := rfl
theorem c_165_29 : mm_code 165 29 = some (Instr.iload 4, 2, 0, 0, 0, []) := rfl
theorem c_165_31 : mm_code 165 31 = some (Instr.iadd, 1, 0, 0, 0, []) := rfl
theorem c_165_32 : mm_code 165 32 = some (Instr.iaload, 1, 0, 0, 0, []) := rfl
theorem c_165_33 : mm_code 165 33 = some (Instr.invokevirtual 220, 3, 10, 166, 1, [1147, 1149, 38, 66, 1150]) := rfl
theorem c_165_36 : mm_code 165 36 = some (Instr.iinc 4 1, 3, 0, 0, 0, []) := rfl
theorem c_165_39 : mm_code 165 39 = some (Instr.goto (-31), 3, 0, 8, 0, []) := rfl
theorem c_165_42 : mm_code 165 42 = some (Instr.aload_n 0, 1, 0, 0, 0, []) := rfl
theorem c_165_43 : mm_code 165 43 = some (Instr.getfield 217, 3, 0, 10, 34, [891]) := rfl
theorem c_165_46 : mm_code 165 46 = some (Instr.istore 4, 2, 0, 0, 0, []) := rfl
theorem c_165_48 : mm_code 165 48 = some (Instr.iload 4, 2, 0, 0, 0, []) := rfl
theorem c_165_50 : mm_code 165 50 = some (Instr.istore 5, 2, 0, 0, 0, []) := rfl
theorem c_165_52 : mm_code 165 52 = some (Instr.iload 4, 2, 0, 0, 0, []) := rfl
theorem c_165_54 : mm_code 165 54 = some (Instr.ifCond .le 9, 3, 0, 63, 0, []) := rfl
theorem c_165_57 : mm_code 165 57 = some (Instr.aload_n 0, 1, 0, 0, 0, []) := rfl
theorem c_165_58 : mm_code 165 58 = some (Instr.bipush 45, 2, 45, 0, 0, []) := rfl
theorem c_165_60 : mm_code 165 60 = some (Instr.invokevirtual 220, 3, 10, 166, 1, [1147, 1149, 38, 66, 1150]) := rfl
theorem c_165_63 : mm_code 165 63 = some (Instr.lconst 0, 1, 0, 0, 0, []) := rfl
theorem c_165_64 : mm_code 165 64 = some (Instr.lstore 6, 2, 0, 0, 0, []) := rfl
theorem c_165_66 : mm_code 165 66 = some (Instr.sipush 128, 3, 128, 0, 0, []) := rfl
theorem c_165_69 : mm_code 165 69 = some (Instr.istore 8, 2, 0, 0, 0, []) := rfl
theorem c_165_71 : mm_code 165 71 = some (Instr.bipush 72, 2, 72, 0, 0, []) := rfl
theorem c_165_73 : mm_code 165 73 = some (Instr.istore 9, 2, 0, 0, 0, []) := rfl
theorem c_165_75 : mm_code 165 75 = some (Instr.iload 5, 2, 0, 0, 0, []) := rfl
set_option maxRecDepth 100000 in theorem c_165_77 : mm_code 165 77 = some (Instr.iload_n 3, 1, 0, 0, 0, []) := rfl
set_option maxRecDepth 100000 in theorem c_165_78 : mm_code 165 78 = some (Instr.if_icmp .ge 196, 3, 0, 274, 0, []) := rfl
set_option maxRecDepth 100000 in theorem c_165_81 : mm_code 165 81 = some (Instr.ldc 224, 2, 1114112, 0, 0, [1151]) := rfl
set_option maxRecDepth 100000 in theorem c_165_83 : mm_code 165 83 = some (Instr.istore 10, 2, 0, 0, 0, []) := rfl
set_option maxRecDepth 100000 in theorem c_165_85 : mm_code 165 85 = some (Instr.iconst 0, 1, 0, 0, 0, []) := rfl
set_option maxRecDepth 100000 in theorem c_165_86 : mm_code 165 86 = some (Instr.istore 11, 2, 0, 0, 0, []) := rfl
set_option maxRecDepth 100000 in theorem c_165_88 : mm_code 165 88 = some (Instr.iload 11, 2, 0, 0, 0, []) := rfl
set_option maxRecDepth 100000 in theorem c_165_90 : mm_code 165 90 = some (Instr.iload_n 3, 1, 0, 0, 0, []) := rfl
set_option maxRecDepth 100000 in theorem c_165_91 : mm_code 165 91 = some (Instr.if_icmp .ge 44, 3, 0, 135, 0, []) := rfl
set_option maxRecDepth 100000 in theorem c_165_94 : mm_code 165 94 = some (Instr.aload_n 1, 1, 0, 0, 0, []) := rfl
set_option maxRecDepth 100000 in theorem c_165_95 : mm_code 165 95 = some (Instr.iload_n 2, 1, 0, 0, 0, []) := rfl
set_option maxRecDepth 100000 in theorem c_165_96 : mm_code 165 96 = some (Instr.iload 11, 2, 0, 0, 0, []) := rfl
set_option maxRecDepth 100000 in theorem c_165_98 : mm_code 165 98 = some (Instr.iadd, 1, 0, 0, 0, []) := rfl
set_option maxRecDepth 100000 in theorem c_165_99 : mm_code 165 99 = some (Instr.iaload, 1, 0, 0, 0, []) := rfl
set_option maxRecDepth 100000 in theorem c_165_100 : mm_code 165 100 = some (Instr.iload 8, 2, 0, 0, 0, []) := rfl
set_option maxRecDepth 100000 in theorem c_165_102 : mm_code 165 102 = some (Instr.if_icmp .lt 23, 3, 0, 125, 0, []) := rfl
set_option maxRecDepth 100000 in theorem c_165_105 : mm_code 165 105 = some (Instr.aload_n 1, 1, 0, 0, 0, []) := rfl
set_option maxRecDepth 100000 in theorem c_165_106 : mm_code 165 106 = some (Instr.iload_n 2, 1, 0, 0, 0, []) := rfl
set_option maxRecDepth 100000 in theorem c_165_107 : mm_code 165 107 = some (Instr.iload 11, 2, 0, 0, 0, []) := rfl
set_option maxRecDepth 100000 in theorem c_165_109 : mm_code 165 109 = some (Instr.iadd, 1, 0, 0, 0, []) := rfl
set_option maxRecDepth 100000 in theorem c_165_110 : mm_code 165 110 = some (Instr.iaload, 1, 0, 0, 0, []) := rfl
set_option maxRecDepth 100000 in theorem c_165_111 : mm_code 165 111 = some (Instr.iload 10, 2, 0, 0, 0, []) := rfl
set_option maxRecDepth 100000 in theorem c_165_113 : mm_code 165 113 = some (Instr.if_icmp .ge 12, 3, 0, 125, 0, []) := rfl
set_option maxRecDepth 100000 in theorem c_165_116 : mm_code 165 116 = some (Instr.aload_n 1, 1, 0, 0, 0, []) := rfl
set_option maxRecDepth 100000 in theorem c_165_117 : mm_code 165 117 = some (Instr.iload_n 2, 1, 0, 0, 0, []) := rfl
set_option maxRecDepth 100000 in theorem c_165_118 : mm_code 165 118 = some (Instr.iload 11, 2, 0, 0, 0, []) := rfl
set_option maxRecDepth 100000 in theorem c_165_120 : mm_code 165 120 = some (Instr.iadd, 1, 0, 0, 0, []) := rfl
set_option maxRecDepth 100000 in theorem c_165_121 : mm_code 165 121 = some (Instr.iaload, 1, 0, 0, 0, []) := rfl
set_option maxRecDepth 100000 in theorem c_165_122 : mm_code 165 122 = some (Instr.goto 5, 3, 0, 127, 0, []) := rfl
set_option maxRecDepth 100000 in theorem c_165_125 : mm_code 165 125 = some (Instr.iload 10, 2, 0, 0, 0, []) := rfl
set_option maxRecDepth 100000 in theorem c_165_127 : mm_code 165 127 = some (Instr.istore 10, 2, 0, 0, 0, []) := rfl
set_option maxRecDepth 100000 in theorem c_165_129 : mm_code 165 129 = some (Instr.iinc 11 1, 3, 0, 0, 0, []) := rfl
set_option maxRecDepth 100000 in theorem c_165_132 : mm_code 165 132 = some (Instr.goto (-44), 3, 0, 88, 0, []) := rfl
set_option maxRecDepth 100000 in theorem c_165_135 : mm_code 165 135 = some (Instr.lload 6, 2, 0, 0, 0, []) := rfl
set_option maxRecDepth 100000 in theorem c_165_137 : mm_code 165 137 = some (Instr.iload 10, 2, 0, 0, 0, []) := rfl
set_option maxRecDepth 100000 in theorem c_165_139 : mm_code 165 139 = some (Instr.iload 8, 2, 0, 0, 0, []) := rfl
set_option maxRecDepth 100000 in theorem c_165_141 : mm_code 165 141 = some (Instr.isub, 1, 0, 0, 0, []) := rfl
set_option maxRecDepth 100000 in theorem c_165_142 : mm_code 165 142 = some (Instr.i2l, 1, 0, 0, 0, []) := rfl
set_option maxRecDepth 100000 in theorem c_165_143 : mm_code 165 143 = some (Instr.iload 5, 2, 0, 0, 0, []) := rfl
set_option maxRecDepth 100000 in theorem c_165_145 : mm_code 165 145 = some (Instr.iconst 1, 1, 1, 0, 0, []) := rfl
set_option maxRecDepth 100000 in theorem c_165_146 : mm_code 165 146 = some (Instr.iadd, 1, 0, 0, 0, []) := rfl
set_option maxRecDepth 100000 in theorem c_165_147 : mm_code 165 147 = some (Instr.i2l, 1, 0, 0, 0, []) := rfl
set_option maxRecDepth 100000 in theorem c_165_148 : mm_code 165 148 = some (Instr.lmul, 1, 0, 0, 0, []) := rfl
set_option maxRecDepth 100000 in theorem c_165_149 : mm_code 165 149 = some (Instr.ladd, 1, 0, 0, 0, []) := rfl
set_option maxRecDepth 100000 in theorem c_165_150 : mm_code 165 150 = some (Instr.lstore 6, 2, 0, 0, 0, []) := rfl
set_option maxRecDepth 100000 in theorem c_165_152 : mm_code 165 152 = some (Instr.lload 6, 2, 0, 0, 0, []) := rfl
set_option maxRecDepth 100000 in theorem c_165_154 : mm_code 165 154 = some (Instr.ldc2_w 225, 3, 2147483647, 0, 0, [1152]) := rfl
set_option maxRecDepth 100000 in theorem c_165_157 : mm_code 165 157 = some (Instr.lcmp, 1, 0, 0, 0, []) := rfl
set_option maxRecDepth 100000 in theorem c_165_158 : mm_code 165 158 = some (Instr.ifCond .le 5, 3, 0, 163, 0, []) := rfl
set_option maxRecDepth 100000 in theorem c_165_161 : mm_code 165 161 = some (Instr.iconst 0, 1, 0, 0, 0, []) := rfl
set_option maxRecDepth 100000 in theorem c_165_162 : mm_code 165 162 = some (Instr.ireturn, 1, 1, 0, 0, []) := rfl
set_option maxRecDepth 100000 in theorem c_165_163 : mm_code 165 163 = some (Instr.iload 10, 2, 0, 0, 0, []) := rfl
set_option maxRecDepth 100000 in theorem c_165_165 : mm_code 165 165 = some (Instr.istore 8, 2, 0, 0, 0, []) := rfl
set_option maxRecDepth 100000 in theorem c_165_167 : mm_code 165 167 = some (Instr.iconst 0, 1, 0, 0, 0, []) := rfl
set_option maxRecDepth 100000 in theorem c_165_168 : mm_code 165 168 = some (Instr.istore 11, 2, 0, 0, 0, []) := rfl
set_option maxRecDepth 100000 in theorem c_165_170 : mm_code 165 170 = some (Instr.iload 11, 2, 0, 0, 0, []) := rfl
set_option maxRecDepth 100000 in theorem c_165_172 : mm_code 165 172 = some (Instr.iload_n 3, 1, 0, 0, 0, []) := rfl
set_option maxRecDepth 100000 in theorem c_165_173 : mm_code 165 173 = some (Instr.if_icmp .ge 89, 3, 0, 262, 0, []) := rfl
set_option maxRecDepth 100000 in theorem c_165_176 : mm_code 165 176 = some (Instr.aload_n 1, 1, 0, 0, 0, []) := rfl
set_option maxRecDepth 100000 in theorem c_165_177 : mm_code 165 177 = some (Instr.iload_n 2, 1, 0, 0, 0, []) := rfl
set_option maxRecDepth 100000 in theorem c_165_178 : mm_code 165 178 = some (Instr.iload 11, 2, 0, 0, 0, []) := rfl
set_option maxRecDepth 100000 in theorem c_165_180 : mm_code 165 180 = some (Instr.iadd, 1, 0, 0, 0, []) := rfl
set_option maxRecDepth 100000 in theorem c_165_181 : mm_code 165 181 = some (Instr.iaload, 1, 0, 0, 0, []) := rfl
set_option maxRecDepth 100000 in theorem c_165_182 : mm_code 165 182 = some (Instr.istore 12, 2, 0, 0, 0, []) := rfl
set_option maxRecDepth 100000 in theorem c_165_184 : mm_code 165 184 = some (Instr.lload 6, 2, 0, 0, 0, []) := rfl
set_option maxRecDepth 100000 in theorem c_165_186 : mm_code 165 186 = some (Instr.iload 12, 2, 0, 0, 0, []) := rfl
set_option maxRecDepth 100000 in theorem c_165_188 : mm_code 165 188 = some (Instr.iload 8, 2, 0, 0, 0, []) := rfl
set_option maxRecDepth 100000 in theorem c_165_190 : mm_code 165 190 = some (Instr.if_icmp .ge 7, 3, 0, 197, 0, []) := rfl
set_option maxRecDepth 100000 in theorem c_165_193 : mm_code 165 193 = some (Instr.lconst 1, 1, 1, 0, 0, []) := rfl
set_option maxRecDepth 100000 in theorem c_165_194 : mm_code 165 194 = some (Instr.goto 4, 3, 0, 198, 0, []) := rfl
set_option maxRecDepth 100000 in theorem c_165_197 : mm_code 165 197 = some (Instr.lconst 0, 1, 0, 0, 0, []) := rfl
set_option maxRecDepth 100000 in theorem c_165_198 : mm_code 165 198 = some (Instr.ladd, 1, 0, 0, 0, []) := rfl
set_option maxRecDepth 100000 in theorem c_165_199 : mm_code 165 199 = some (Instr.lstore 6, 2, 0, 0, 0, []) := rfl
set_option maxRecDepth 100000 in theorem c_165_201 : mm_code 165 201 = some (Instr.lload 6, 2, 0, 0, 0, []) := rfl
set_option maxRecDepth 100000 in theorem c_165_203 : mm_code 165 203 = some (Instr.ldc2_w 225, 3, 2147483647, 0, 0, [1152]) := rfl
set_option maxRecDepth 100000 in theorem c_165_206 : mm_code 165 206 = some (Instr.lcmp, 1, 0, 0, 0, []) := rfl
set_option maxRecDepth 100000 in theorem c_165_207 : mm_code 165 207 = some (Instr.ifCond .le 5, 3, 0, 212, 0, []) := rfl
set_option maxRecDepth 100000 in theorem c_165_210 : mm_code 165 210 = some (Instr.iconst 0, 1, 0, 0, 0, []) := rfl
set_option maxRecDepth 100000 in theorem c_165_211 : mm_code 165 211 = some (Instr.ireturn, 1, 1, 0, 0, []) := rfl
set_option maxRecDepth 100000 in theorem c_165_212 : mm_code 165 212 = some (Instr.iload 12, 2, 0, 0, 0, []) := rfl
set_option maxRecDepth 100000 in theorem c_165_214 : mm_code 165 214 = some (Instr.iload 8, 2, 0, 0, 0, []) := rfl
set_option maxRecDepth 100000 in theorem c_165_216 : mm_code 165 216 = some (Instr.if_icmp .ne 40, 3, 0, 256, 0, []) := rfl
set_option maxRecDepth 100000 in theorem c_165_219 : mm_code 165 219 = some (Instr.aload_n 0, 1, 0, 0, 0, []) := rfl
set_option maxRecDepth 100000 in theorem c_165_220 : mm_code 165 220 = some (Instr.lload 6, 2, 0, 0, 0, []) := rfl
set_option maxRecDepth 100000 in theorem c_165_222 : mm_code 165 222 = some (Instr.iload 9, 2, 0, 0, 0, []) := rfl
set_option maxRecDepth 100000 in theorem c_165_224 : mm_code 165 224 = some (Instr.invokevirtual 227, 3, 10, 167, 2, [1153, 1155, 39, 66, 1156]) := rfl
set_option maxRecDepth 100000 in theorem c_165_227 : mm_code 165 227 = some (Instr.lload 6, 2, 0, 0, 0, []) := rfl
set_option maxRecDepth 100000 in theorem c_165_229 : mm_code 165 229 = some (Instr.iload 5, 2, 0, 0, 0, []) := rfl
set_option maxRecDepth 100000 in theorem c_165_231 : mm_code 165 231 = some (Instr.iconst 1, 1, 1, 0, 0, []) := rfl
set_option maxRecDepth 100000 in theorem c_165_232 : mm_code 165 232 = some (Instr.iadd, 1, 0, 0, 0, []) := rfl
set_option maxRecDepth 100000 in theorem c_165_233 : mm_code 165 233 = some (Instr.iload 5, 2, 0, 0, 0, []) := rfl
set_option maxRecDepth 100000 in theorem c_165_235 : mm_code 165 235 = some (Instr.iload 4, 2, 0, 0, 0, []) := rfl
set_option maxRecDepth 100000 in theorem c_165_237 : mm_code 165 237 = some (Instr.if_icmp .ne 7, 3, 0, 244, 0, []) := rfl
set_option maxRecDepth 100000 in theorem c_165_240 : mm_code 165 240 = some (Instr.iconst 1, 1, 1, 0, 0, []) := rfl
set_option maxRecDepth 100000 in theorem c_165_241 : mm_code 165 241 = some (Instr.goto 4, 3, 0, 245, 0, []) := rfl
set_option maxRecDepth 100000 in theorem c_165_244 : mm_code 165 244 = some (Instr.iconst 0, 1, 0, 0, 0, []) := rfl
set_option maxRecDepth 100000 in theorem c_165_245 : mm_code 165 245 = some (Instr.invokestatic 231, 3, 0, 170, 3, [1163, 1164, 66, 1165]) := rfl
set_option maxRecDepth 100000 in theorem c_165_248 : mm_code 165 248 = some (Instr.istore 9, 2, 0, 0, 0, []) := rfl
set_option maxRecDepth 100000 in theorem c_165_250 : mm_code 165 250 = some (Instr.lconst 0, 1, 0, 0, 0, []) := rfl
set_option maxRecDepth 100000 in theorem c_165_251 : mm_code 165 251 = some (Instr.lstore 6, 2, 0, 0, 0, []) := rfl
set_option maxRecDepth 100000 in theorem c_165_253 : mm_code 165 253 = some (Instr.iinc 5 1, 3, 0, 0, 0, []) := rfl
set_option maxRecDepth 100000 in theorem c_165_256 : mm_code 165 256 = some (Instr.iinc 11 1, 3, 0, 0, 0, []) := rfl
set_option maxRecDepth 100000 in theorem c_165_259 : mm_code 165 259 = some (Instr.goto (-89), 3, 0, 170, 0, []) := rfl
set_option maxRecDepth 100000 in theorem c_165_262 : mm_code 165 262 = some (Instr.lload 6, 2, 0, 0, 0, []) := rfl
set_option maxRecDepth 100000 in theorem c_165_264 : mm_code 165 264 = some (Instr.lconst 1, 1, 1, 0, 0, []) := rfl
set_option maxRecDepth 100000 in theorem c_165_265 : mm_code 165 265 = some (Instr.ladd, 1, 0, 0, 0, []) := rfl
set_option maxRecDepth 100000 in theorem c_165_266 : mm_code 165 266 = some (Instr.lstore 6, 2, 0, 0, 0, []) := rfl
set_option maxRecDepth 100000 in theorem c_165_268 : mm_code 165 268 = some (Instr.iinc 8 1, 3, 0, 0, 0, []) := rfl
set_option maxRecDepth 100000 in theorem c_165_271 : mm_code 165 271 = some (Instr.goto (-196), 3, 0, 75, 0, []) := rfl
set_option maxRecDepth 100000 in theorem c_165_274 : mm_code 165 274 = some (Instr.iconst 1, 1, 1, 0, 0, []) := rfl
set_option maxRecDepth 100000 in theorem c_165_275 : mm_code 165 275 = some (Instr.ireturn, 1, 1, 0, 0, []) := rfl
theorem c_166_0 : mm_code 166 0 = some (Instr.aload_n 0, 1, 0, 0, 0, []) := rfl
theorem c_166_1 : mm_code 166 1 = some (Instr.getfield 217, 3, 0, 10, 34, [891]) := rfl
theorem c_166_4 : mm_code 166 4 = some (Instr.sipush 2600, 3, 2600, 0, 0, []) := rfl
theorem c_166_7 : mm_code 166 7 = some (Instr.if_icmp .ge 13, 3, 0, 20, 0, []) := rfl
theorem c_166_10 : mm_code 166 10 = some (Instr.aload_n 0, 1, 0, 0, 0, []) := rfl
theorem c_166_11 : mm_code 166 11 = some (Instr.getfield 78, 3, 0, 10, 33, [890]) := rfl
theorem c_166_14 : mm_code 166 14 = some (Instr.aload_n 0, 1, 0, 0, 0, []) := rfl
theorem c_166_15 : mm_code 166 15 = some (Instr.getfield 217, 3, 0, 10, 34, [891]) := rfl
theorem c_166_18 : mm_code 166 18 = some (Instr.iload_n 1, 1, 0, 0, 0, []) := rfl
theorem c_166_19 : mm_code 166 19 = some (Instr.iastore, 1, 0, 0, 0, []) := rfl
theorem c_166_20 : mm_code 166 20 = some (Instr.aload_n 0, 1, 0, 0, 0, []) := rfl
theorem c_166_21 : mm_code 166 21 = some (Instr.dup, 1, 0, 0, 0, []) := rfl
theorem c_166_22 : mm_code 166 22 = some (Instr.getfield 217, 3, 0, 10, 34, [891]) := rfl
theorem c_166_25 : mm_code 166 25 = some (Instr.iconst 1, 1, 1, 0, 0, []) := rfl
theorem c_166_26 : mm_code 166 26 = some (Instr.iadd, 1, 0, 0, 0, []) := rfl
theorem c_166_27 : mm_code 166 27 = some (Instr.putfield 217, 3, 1, 10, 34, [891]) := rfl
theorem c_166_30 : mm_code 166 30 = some (Instr.return_, 1, 0, 0, 0, []) := rfl
theorem c_167_0 : mm_code 167 0 = some (Instr.lload_n 1, 1, 0, 0, 0, []) := rfl
theorem c_167_1 : mm_code 167 1 = some (Instr.lstore 4, 2, 0, 0, 0, []) := rfl
theorem c_167_3 : mm_code 167 3 = some (Instr.bipush 36, 2, 36, 0, 0, []) := rfl
theorem c_167_5 : mm_code 167 5 = some (Instr.istore 6, 2, 0, 0, 0, []) := rfl
theorem c_167_7 : mm_code 167 7 = some (Instr.lload 4, 2, 0, 0, 0, []) := rfl
theorem c_167_9 : mm_code 167 9 = some (Instr.iload 6, 2, 0, 0, 0, []) := rfl
theorem c_167_11 : mm_code 167 11 = some (Instr.iload_n 3, 1, 0, 0, 0, []) := rfl
theorem c_167_12 : mm_code 167 12 = some (Instr.invokestatic 235, 3, 0, 168, 2, [1157, 1158, 66, 1159]) := rfl
theorem c_167_15 : mm_code 167 15 = some (Instr.i2l, 1, 0, 0, 0, []) := rfl
theorem c_167_16 : mm_code 167 16 = some (Instr.lcmp, 1, 0, 0, 0, []) := rfl
theorem c_167_17 : mm_code 167 17 = some (Instr.ifCond .lt 57, 3, 0, 74, 0, []) := rfl
theorem c_167_20 : mm_code 167 20 = some (Instr.iload 6, 2, 0, 0, 0, []) := rfl
theorem c_167_22 : mm_code 167 22 = some (Instr.iload_n 3, 1, 0, 0, 0, []) := rfl
theorem c_167_23 : mm_code 167 23 = some (Instr.invokestatic 235, 3, 0, 168, 2, [1157, 1158, 66, 1159]) := rfl
theorem c_167_26 : mm_code 167 26 = some (Instr.istore 7, 2, 0, 0, 0, []) := rfl
theorem c_167_28 : mm_code 167 28 = some (Instr.aload_n 0, 1, 0, 0, 0, []) := rfl
theorem c_167_29 : mm_code 167 29 = some (Instr.iload 7, 2, 0, 0, 0, []) := rfl
theorem c_167_31 : mm_code 167 31 = some (Instr.i2l, 1, 0, 0, 0, []) := rfl
theorem c_167_32 : mm_code 167 32 = some (Instr.lload 4, 2, 0, 0, 0, []) := rfl
theorem c_167_34 : mm_code 167 34 = some (Instr.iload 7, 2, 0, 0, 0, []) := rfl
theorem c_167_36 : mm_code 167 36 = some (Instr.i2l, 1, 0, 0, 0, []) := rfl
theorem c_167_37 : mm_code 167 37 = some (Instr.lsub, 1, 0, 0, 0, []) := rfl
theorem c_167_38 : mm_code 167 38 = some (Instr.bipush 36, 2, 36, 0, 0, []) := rfl
theorem c_167_40 : mm_code 167 40 = some (Instr.iload 7, 2, 0, 0, 0, []) := rfl
theorem c_167_42 : mm_code 167 42 = some (Instr.isub, 1, 0, 0, 0, []) := rfl
theorem c_167_43 : mm_code 167 43 = some (Instr.i2l, 1, 0, 0, 0, []) := rfl
theorem c_167_44 : mm_code 167 44 = some (Instr.lrem, 1, 0, 0, 0, []) := rfl
theorem c_167_45 : mm_code 167 45 = some (Instr.ladd, 1, 0, 0, 0, []) := rfl
theorem c_167_46 : mm_code 167 46 = some (Instr.l2i, 1, 0, 0, 0, []) := rfl
theorem c_167_47 : mm_code 167 47 = some (Instr.invokestatic 238, 3, 0, 169, 1, [1160, 1161, 66, 1162]) := rfl
theorem c_167_50 : mm_code 167 50 = some (Instr.invokevirtual 220, 3, 10, 166, 1, [1147, 1149, 38, 66, 1150]) := rfl
theorem c_167_53 : mm_code 167 53 = some (Instr.lload 4, 2, 0, 0, 0, []) := rfl
theorem c_167_55 : mm_code 167 55 = some (Instr.iload 7, 2, 0, 0, 0, []) := rfl
theorem c_167_57 : mm_code 167 57 = some (Instr.i2l, 1, 0, 0, 0, []) := rfl
theorem c_167_58 : mm_code 167 58 = some (Instr.lsub, 1, 0, 0, 0, []) := rfl
theorem c_167_59 : mm_code 167 59 = some (Instr.bipush 36, 2, 36, 0, 0, []) := rfl
theorem c_167_61 : mm_code 167 61 = some (Instr.iload 7, 2, 0, 0, 0, []) := rfl
theorem c_167_63 : mm_code 167 63 = some (Instr.isub, 1, 0, 0, 0, []) := rfl
theorem c_167_64 : mm_code 167 64 = some (Instr.i2l, 1, 0, 0, 0, []) := rfl
theorem c_167_65 : mm_code 167 65 = some (Instr.ldiv, 1, 0, 0, 0, []) := rfl
theorem c_167_66 : mm_code 167 66 = some (Instr.lstore 4, 2, 0, 0, 0, []) := rfl
set_option maxRecDepth 100000 in theorem c_167_68 : mm_code 167 68 = some (Instr.iinc 6 36, 3, 0, 0, 0, []) := rfl
set_option maxRecDepth 100000 in theorem c_167_71 : mm_code 167 71 = some (Instr.goto (-64), 3, 0, 7, 0, []) := rfl
set_option maxRecDepth 100000 in theorem c_167_74 : mm_code 167 74 = some (Instr.aload_n 0, 1, 0, 0, 0, []) := rfl
set_option maxRecDepth 100000 in theorem c_167_75 : mm_code 167 75 = some (Instr.lload 4, 2, 0, 0, 0, []) := rfl
set_option maxRecDepth 100000 in theorem c_167_77 : mm_code 167 77 = some (Instr.l2i, 1, 0, 0, 0, []) := rfl
set_option maxRecDepth 100000 in theorem c_167_78 : mm_code 167 78 = some (Instr.invokestatic 238, 3, 0, 169, 1, [1160, 1161, 66, 1162]) := rfl
set_option maxRecDepth 100000 in theorem c_167_81 : mm_code 167 81 = some (Instr.invokevirtual 220, 3, 10, 166, 1, [1147, 1149, 38, 66, 1150]) := rfl
set_option maxRecDepth 100000 in theorem c_167_84 : mm_code 167 84 = some (Instr.return_, 1, 0, 0, 0, []) := rfl
theorem c_168_0 : mm_code 168 0 = some (Instr.iload_n 0, 1, 0, 0, 0, []) := rfl
theorem c_168_1 : mm_code 168 1 = some (Instr.iload_n 1, 1, 0, 0, 0, []) := rfl
theorem c_168_2 : mm_code 168 2 = some (Instr.isub, 1, 0, 0, 0, []) := rfl
theorem c_168_3 : mm_code 168 3 = some (Instr.istore_n 2, 1, 0, 0, 0, []) := rfl
theorem c_168_4 : mm_code 168 4 = some (Instr.iload_n 2, 1, 0, 0, 0, []) := rfl
theorem c_168_5 : mm_code 168 5 = some (Instr.iconst 1, 1, 1, 0, 0, []) := rfl
theorem c_168_6 : mm_code 168 6 = some (Instr.if_icmp .ge 7, 3, 0, 13, 0, []) := rfl
theorem c_168_9 : mm_code 168 9 = some (Instr.iconst 1, 1, 1, 0, 0, []) := rfl
theorem c_168_10 : mm_code 168 10 = some (Instr.goto 15, 3, 0, 25, 0, []) := rfl
theorem c_168_13 : mm_code 168 13 = some (Instr.iload_n 2, 1, 0, 0, 0, []) := rfl
theorem c_168_14 : mm_code 168 14 = some (Instr.bipush 26, 2, 26, 0, 0, []) := rfl
theorem c_168_16 : mm_code 168 16 = some (Instr.if_icmp .le 8, 3, 0, 24, 0, []) := rfl
theorem c_168_19 : mm_code 168 19 = some (Instr.bipush 26, 2, 26, 0, 0, []) := rfl
theorem c_168_21 : mm_code 168 21 = some (Instr.goto 4, 3, 0, 25, 0, []) := rfl
theorem c_168_24 : mm_code 168 24 = some (Instr.iload_n 2, 1, 0, 0, 0, []) := rfl
theorem c_168_25 : mm_code 168 25 = some (Instr.ireturn, 1, 0, 0, 0, []) := rfl
theorem c_169_0 : mm_code 169 0 = some (Instr.iload_n 0, 1, 0, 0, 0, []) := rfl
theorem c_169_1 : mm_code 169 1 = some (Instr.bipush 26, 2, 26, 0, 0, []) := rfl
theorem c_169_3 : mm_code 169 3 = some (Instr.if_icmp .ge 10, 3, 0, 13, 0, []) := rfl
theorem c_169_6 : mm_code 169 6 = some (Instr.bipush 97, 2, 97, 0, 0, []) := rfl
theorem c_169_8 : mm_code 169 8 = some (Instr.iload_n 0, 1, 0, 0, 0, []) := rfl
theorem c_169_9 : mm_code 169 9 = some (Instr.iadd, 1, 0, 0, 0, []) := rfl
theorem c_169_10 : mm_code 169 10 = some (Instr.goto 10, 3, 0, 20, 0, []) := rfl
theorem c_169_13 : mm_code 169 13 = some (Instr.bipush 48, 2, 48, 0, 0, []) := rfl
theorem c_169_15 : mm_code 169 15 = some (Instr.iload_n 0, 1, 0, 0, 0, []) := rfl
theorem c_169_16 : mm_code 169 16 = some (Instr.iadd, 1, 0, 0, 0, []) := rfl
theorem c_169_17 : mm_code 169 17 = some (Instr.bipush 26, 2, 26, 0, 0, []) := rfl
theorem c_169_19 : mm_code 169 19 = some (Instr.isub, 1, 0, 0, 0, []) := rfl
theorem c_169_20 : mm_code 169 20 = some (Instr.ireturn, 1, 0, 0, 0, []) := rfl
theorem c_170_0 : mm_code 170 0 = some (Instr.iload_n 3, 1, 0, 0, 0, []) := rfl
theorem c_170_1 : mm_code 170 1 = some (Instr.ifCond .eq 11, 3, 0, 12, 0, []) := rfl
theorem c_170_4 : mm_code 170 4 = some (Instr.lload_n 0, 1, 0, 0, 0, []) := rfl
theorem c_170_5 : mm_code 170 5 = some (Instr.ldc2_w 205, 3, 700, 0, 0, [1166]) := rfl
theorem c_170_8 : mm_code 170 8 = some (Instr.ldiv, 1, 0, 0, 0, []) := rfl
theorem c_170_9 : mm_code 170 9 = some (Instr.goto 8, 3, 0, 17, 0, []) := rfl
theorem c_170_12 : mm_code 170 12 = some (Instr.lload_n 0, 1, 0, 0, 0, []) := rfl
theorem c_170_13 : mm_code 170 13 = some (Instr.ldc2_w 207, 3, 2, 0, 0, [1167]) := rfl
theorem c_170_16 : mm_code 170 16 = some (Instr.ldiv, 1, 0, 0, 0, []) := rfl
theorem c_170_17 : mm_code 170 17 = some (Instr.lstore 4, 2, 0, 0, 0, []) := rfl
theorem c_170_19 : mm_code 170 19 = some (Instr.lload 4, 2, 0, 0, 0, []) := rfl
theorem c_170_21 : mm_code 170 21 = some (Instr.lload 4, 2, 0, 0, 0, []) := rfl
theorem c_170_23 : mm_code 170 23 = some (Instr.iload_n 2, 1, 0, 0, 0, []) := rfl
theorem c_170_24 : mm_code 170 24 = some (Instr.i2l, 1, 0, 0, 0, []) := rfl
theorem c_170_25 : mm_code 170 25 = some (Instr.ldiv, 1, 0, 0, 0, []) := rfl
theorem c_170_26 : mm_code 170 26 = some (Instr.ladd, 1, 0, 0, 0, []) := rfl
theorem c_170_27 : mm_code 170 27 = some (Instr.lstore 4, 2, 0, 0, 0, []) := rfl
theorem c_170_29 : mm_code 170 29 = some (Instr.iconst 0, 1, 0, 0, 0, []) := rfl
theorem c_170_30 : mm_code 170 30 = some (Instr.istore 6, 2, 0, 0, 0, []) := rfl
theorem c_170_32 : mm_code 170 32 = some (Instr.lload 4, 2, 0, 0, 0, []) := rfl
theorem c_170_34 : mm_code 170 34 = some (Instr.ldc2_w 209, 3, 455, 0, 0, [1168]) := rfl
theorem c_170_37 : mm_code 170 37 = some (Instr.lcmp, 1, 0, 0, 0, []) := rfl
theorem c_170_38 : mm_code 170 38 = some (Instr.ifCond .le 17, 3, 0, 55, 0, []) := rfl
theorem c_170_41 : mm_code 170 41 = some (Instr.lload 4, 2, 0, 0, 0, []) := rfl
theorem c_170_43 : mm_code 170 43 = some (Instr.ldc2_w 211, 3, 35, 0, 0, [1169]) := rfl
theorem c_170_46 : mm_code 170 46 = some (Instr.ldiv, 1, 0, 0, 0, []) := rfl
theorem c_170_47 : mm_code 170 47 = some (Instr.lstore 4, 2, 0, 0, 0, []) := rfl
theorem c_170_49 : mm_code 170 49 = some (Instr.iinc 6 36, 3, 0, 0, 0, []) := rfl
theorem c_170_52 : mm_code 170 52 = some (Instr.goto (-20), 3, 0, 32, 0, []) := rfl
theorem c_170_55 : mm_code 170 55 = some (Instr.iload 6, 2, 0, 0, 0, []) := rfl
theorem c_170_57 : mm_code 170 57 = some (Instr.i2l, 1, 0, 0, 0, []) := rfl
theorem c_170_58 : mm_code 170 58 = some (Instr.ldc2_w 213, 3, 36, 0, 0, [1170]) := rfl
theorem c_170_61 : mm_code 170 61 = some (Instr.lload 4, 2, 0, 0, 0, []) := rfl
theorem c_170_63 : mm_code 170 63 = some (Instr.lmul, 1, 0, 0, 0, []) := rfl
theorem c_170_64 : mm_code 170 64 = some (Instr.lload 4, 2, 0, 0, 0, []) := rfl
theorem c_170_66 : mm_code 170 66 = some (Instr.ldc2_w 215, 3, 38, 0, 0, [1171]) := rfl
theorem c_170_69 : mm_code 170 69 = some (Instr.ladd, 1, 0, 0, 0, []) := rfl
theorem c_170_70 : mm_code 170 70 = some (Instr.ldiv, 1, 0, 0, 0, []) := rfl
theorem c_170_71 : mm_code 170 71 = some (Instr.ladd, 1, 0, 0, 0, []) := rfl
theorem c_170_72 : mm_code 170 72 = some (Instr.l2i, 1, 0, 0, 0, []) := rfl
theorem c_170_73 : mm_code 170 73 = some (Instr.ireturn, 1, 0, 0, 0, []) := rfl
theorem c_171_0 : mm_code 171 0 = some (Instr.aload_n 0, 1, 0, 0, 0, []) := rfl
theorem c_171_1 : mm_code 171 1 = some (Instr.iconst 0, 1, 0, 0, 0, []) := rfl
theorem c_171_2 : mm_code 171 2 = some (Instr.putfield 112, 3, 1, 10, 0, [857]) := rfl
theorem c_171_5 : mm_code 171 5 = some (Instr.aload_n 0, 1, 0, 0, 0, []) := rfl
theorem c_171_6 : mm_code 171 6 = some (Instr.aload_n 0, 1, 0, 0, 0, []) := rfl
theorem c_171_7 : mm_code 171 7 = some (Instr.getfield 13, 3, 0, 10, 3, [860]) := rfl
theorem c_171_10 : mm_code 171 10 = some (Instr.iconst 0, 1, 0, 0, 0, []) := rfl
theorem c_171_11 : mm_code 171 11 = some (Instr.aload_n 0, 1, 0, 0, 0, []) := rfl
theorem c_171_12 : mm_code 171 12 = some (Instr.getfield 108, 3, 0, 10, 4, [861]) := rfl
theorem c_171_15 : mm_code 171 15 = some (Instr.invokevirtual 254, 3, 10, 172, 3, [1176, 1178, 40, 66, 1179]) := rfl
theorem c_171_18 : mm_code 171 18 = some (Instr.istore_n 1, 1, 0, 0, 0, []) := rfl
theorem c_171_19 : mm_code 171 19 = some (Instr.iload_n 1, 1, 0, 0, 0, []) := rfl
theorem c_171_20 : mm_code 171 20 = some (Instr.ifCond .lt 8, 3, 0, 28, 0, []) := rfl
theorem c_171_23 : mm_code 171 23 = some (Instr.bipush (-10), 2, (-10), 0, 0, []) := rfl
theorem c_171_25 : mm_code 171 25 = some (Instr.iload_n 1, 1, 0, 0, 0, []) := rfl
theorem c_171_26 : mm_code 171 26 = some (Instr.isub, 1, 0, 0, 0, []) := rfl
theorem c_171_27 : mm_code 171 27 = some (Instr.ireturn, 1, 0, 0, 0, []) := rfl
theorem c_171_28 : mm_code 171 28 = some (Instr.aload_n 0, 1, 0, 0, 0, []) := rfl
theorem c_171_29 : mm_code 171 29 = some (Instr.aload_n 0, 1, 0, 0, 0, []) := rfl
theorem c_171_30 : mm_code 171 30 = some (Instr.getfield 244, 3, 0, 10, 36, [893]) := rfl
theorem c_171_33 : mm_code 171 33 = some (Instr.putfield 108, 3, 1, 10, 4, [861]) := rfl
theorem c_171_36 : mm_code 171 36 = some (Instr.iconst 0, 1, 0, 0, 0, []) := rfl
theorem c_171_37 : mm_code 171 37 = some (Instr.istore_n 2, 1, 0, 0, 0, []) := rfl
theorem c_171_38 : mm_code 171 38 = some (Instr.iload_n 2, 1, 0, 0, 0, []) := rfl
theorem c_171_39 : mm_code 171 39 = some (Instr.aload_n 0, 1, 0, 0, 0, []) := rfl
theorem c_171_40 : mm_code 171 40 = some (Instr.getfield 108, 3, 0, 10, 4, [861]) := rfl
theorem c_171_43 : mm_code 171 43 = some (Instr.if_icmp .ge 21, 3, 0, 64, 0, []) := rfl
theorem c_171_46 : mm_code 171 46 = some (Instr.aload_n 0, 1, 0, 0, 0, []) := rfl
theorem c_171_47 : mm_code 171 47 = some (Instr.getfield 13, 3, 0, 10, 3, [860]) := rfl
theorem c_171_50 : mm_code 171 50 = some (Instr.iload_n 2, 1, 0, 0, 0, []) := rfl
theorem c_171_51 : mm_code 171 51 = some (Instr.aload_n 0, 1, 0, 0, 0, []) := rfl
theorem c_171_52 : mm_code 171 52 = some (Instr.getfield 81, 3, 0, 10, 35, [892]) := rfl
theorem c_171_55 : mm_code 171 55 = some (Instr.iload_n 2, 1, 0, 0, 0, []) := rfl
theorem c_171_56 : mm_code 171 56 = some (Instr.iaload, 1, 0, 0, 0, []) := rfl
theorem c_171_57 : mm_code 171 57 = some (Instr.iastore, 1, 0, 0, 0, []) := rfl
theorem c_171_58 : mm_code 171 58 = some (Instr.iinc 2 1, 3, 0, 0, 0, []) := rfl
theorem c_171_61 : mm_code 171 61 = some (Instr.goto (-23), 3, 0, 38, 0, []) := rfl
theorem c_171_64 : mm_code 171 64 = some (Instr.aload_n 0, 1, 0, 0, 0, []) := rfl
theorem c_171_65 : mm_code 171 65 = some (Instr.getfield 108, 3, 0, 10, 4, [861]) := rfl
theorem c_171_68 : mm_code 171 68 = some (Instr.ireturn, 1, 0, 0, 0, []) := rfl
theorem c_172_0 : mm_code 172 0 = some (Instr.iconst (-1), 1, (-1), 0, 0, []) := rfl
theorem c_172_1 : mm_code 172 1 = some (Instr.istore 4, 2, 0, 0, 0, []) := rfl
theorem c_172_3 : mm_code 172 3 = some (Instr.iconst 0, 1, 0, 0, 0, []) := rfl
theorem c_172_4 : mm_code 172 4 = some (Instr.istore 5, 2, 0, 0, 0, []) := rfl
theorem c_172_6 : mm_code 172 6 = some (Instr.iload 5, 2, 0, 0, 0, []) := rfl
theorem c_172_8 : mm_code 172 8 = some (Instr.iload_n 3, 1, 0, 0, 0, []) := rfl
theorem c_172_9 : mm_code 172 9 = some (Instr.if_icmp .ge 43, 3, 0, 52, 0, []) := rfl
theorem c_172_12 : mm_code 172 12 = some (Instr.aload_n 1, 1, 0, 0, 0, []) := rfl
theorem c_172_13 : mm_code 172 13 = some (Instr.iload_n 2, 1, 0, 0, 0, []) := rfl
theorem c_172_14 : mm_code 172 14 = some (Instr.iload 5, 2, 0, 0, 0, []) := rfl
theorem c_172_16 : mm_code 172 16 = some (Instr.iadd, 1, 0, 0, 0, []) := rfl
theorem c_172_17 : mm_code 172 17 = some (Instr.iaload, 1, 0, 0, 0, []) := rfl
theorem c_172_18 : mm_code 172 18 = some (Instr.bipush 127, 2, 127, 0, 0, []) := rfl
theorem c_172_20 : mm_code 172 20 = some (Instr.if_icmp .le 6, 3, 0, 26, 0, []) := rfl
theorem c_172_23 : mm_code 172 23 = some (Instr.iload 5, 2, 0, 0, 0, []) := rfl
theorem c_172_25 : mm_code 172 25 = some (Instr.ireturn, 1, 0, 0, 0, []) := rfl
theorem c_172_26 : mm_code 172 26 = some (Instr.aload_n 1, 1, 0, 0, 0, []) := rfl
theorem c_172_27 : mm_code 172 27 = some (Instr.iload_n 2, 1, 0, 0, 0, []) := rfl
theorem c_172_28 : mm_code 172 28 = some (Instr.iload 5, 2, 0, 0, 0, []) := rfl
theorem c_172_30 : mm_code 172 30 = some (Instr.iadd, 1, 0, 0, 0, []) := rfl
theorem c_172_31 : mm_code 172 31 = some (Instr.iaload, 1, 0, 0, 0, []) := rfl
theorem c_172_32 : mm_code 172 32 = some (Instr.bipush 45, 2, 45, 0, 0, []) := rfl
theorem c_172_34 : mm_code 172 34 = some (Instr.if_icmp .ne 8, 3, 0, 42, 0, []) := rfl
theorem c_172_37 : mm_code 172 37 = some (Instr.iload 5, 2, 0, 0, 0, []) := rfl
theorem c_172_39 : mm_code 172 39 = some (Instr.goto 5, 3, 0, 44, 0, []) := rfl
theorem c_172_42 : mm_code 172 42 = some (Instr.iload 4, 2, 0, 0, 0, []) := rfl
theorem c_172_44 : mm_code 172 44 = some (Instr.istore 4, 2, 0, 0, 0, []) := rfl
theorem c_172_46 : mm_code 172 46 = some (Instr.iinc 5 1, 3, 0, 0, 0, []) := rfl
theorem c_172_49 : mm_code 172 49 = some (Instr.goto (-43), 3, 0, 6, 0, []) := rfl
theorem c_172_52 : mm_code 172 52 = some (Instr.iload 4, 2, 0, 0, 0, []) := rfl
theorem c_172_54 : mm_code 172 54 = some (Instr.ifCond .le 8, 3, 0, 62, 0, []) := rfl
theorem c_172_57 : mm_code 172 57 = some (Instr.iload 4, 2, 0, 0, 0, []) := rfl
theorem c_172_59 : mm_code 172 59 = some (Instr.goto 4, 3, 0, 63, 0, []) := rfl
theorem c_172_62 : mm_code 172 62 = some (Instr.iconst 0, 1, 0, 0, 0, []) := rfl
theorem c_172_63 : mm_code 172 63 = some (Instr.istore 5, 2, 0, 0, 0, []) := rfl
theorem c_172_65 : mm_code 172 65 = some (Instr.aload_n 0, 1, 0, 0, 0, []) := rfl
theorem c_172_66 : mm_code 172 66 = some (Instr.iload 5, 2, 0, 0, 0, []) := rfl
theorem c_172_68 : mm_code 172 68 = some (Instr.putfield 244, 3, 1, 10, 36, [893]) := rfl
theorem c_172_71 : mm_code 172 71 = some (Instr.iconst 0, 1, 0, 0, 0, []) := rfl
theorem c_172_72 : mm_code 172 72 = some (Instr.istore 6, 2, 0, 0, 0, []) := rfl
theorem c_172_74 : mm_code 172 74 = some (Instr.iload 6, 2, 0, 0, 0, []) := rfl
set_option maxRecDepth 100000 in theorem c_172_76 : mm_code 172 76 = some (Instr.iload 5, 2, 0, 0, 0, []) := rfl
set_option maxRecDepth 100000 in theorem c_172_78 : mm_code 172 78 = some (Instr.if_icmp .ge 22, 3, 0, 100, 0, []) := rfl
set_option maxRecDepth 100000 in theorem c_172_81 : mm_code 172 81 = some (Instr.aload_n 0, 1, 0, 0, 0, []) := rfl
set_option maxRecDepth 100000 in theorem c_172_82 : mm_code 172 82 = some (Instr.getfield 81, 3, 0, 10, 35, [892]) := rfl
set_option maxRecDepth 100000 in theorem c_172_85 : mm_code 172 85 = some (Instr.iload 6, 2, 0, 0, 0, []) := rfl
set_option maxRecDepth 100000 in theorem c_172_87 : mm_code 172 87 = some (Instr.aload_n 1, 1, 0, 0, 0, []) := rfl
set_option maxRecDepth 100000 in theorem c_172_88 : mm_code 172 88 = some (Instr.iload_n 2, 1, 0, 0, 0, []) := rfl
set_option maxRecDepth 100000 in theorem c_172_89 : mm_code 172 89 = some (Instr.iload 6, 2, 0, 0, 0, []) := rfl
set_option maxRecDepth 100000 in theorem c_172_91 : mm_code 172 91 = some (Instr.iadd, 1, 0, 0, 0, []) := rfl
set_option maxRecDepth 100000 in theorem c_172_92 : mm_code 172 92 = some (Instr.iaload, 1, 0, 0, 0, []) := rfl
set_option maxRecDepth 100000 in theorem c_172_93 : mm_code 172 93 = some (Instr.iastore, 1, 0, 0, 0, []) := rfl
set_option maxRecDepth 100000 in theorem c_172_94 : mm_code 172 94 = some (Instr.iinc 6 1, 3, 0, 0, 0, []) := rfl
set_option maxRecDepth 100000 in theorem c_172_97 : mm_code 172 97 = some (Instr.goto (-23), 3, 0, 74, 0, []) := rfl
set_option maxRecDepth 100000 in theorem c_172_100 : mm_code 172 100 = some (Instr.iload 4, 2, 0, 0, 0, []) := rfl
set_option maxRecDepth 100000 in theorem c_172_102 : mm_code 172 102 = some (Instr.ifCond .le 10, 3, 0, 112, 0, []) := rfl
set_option maxRecDepth 100000 in theorem c_172_105 : mm_code 172 105 = some (Instr.iload 4, 2, 0, 0, 0, []) := rfl
set_option maxRecDepth 100000 in theorem c_172_107 : mm_code 172 107 = some (Instr.iconst 1, 1, 1, 0, 0, []) := rfl
set_option maxRecDepth 100000 in theorem c_172_108 : mm_code 172 108 = some (Instr.iadd, 1, 0, 0, 0, []) := rfl
set_option maxRecDepth 100000 in theorem c_172_109 : mm_code 172 109 = some (Instr.goto 4, 3, 0, 113, 0, []) := rfl
set_option maxRecDepth 100000 in theorem c_172_112 : mm_code 172 112 = some (Instr.iconst 0, 1, 0, 0, 0, []) := rfl
set_option maxRecDepth 100000 in theorem c_172_113 : mm_code 172 113 = some (Instr.istore 6, 2, 0, 0, 0, []) := rfl
set_option maxRecDepth 100000 in theorem c_172_115 : mm_code 172 115 = some (Instr.lconst 0, 1, 0, 0, 0, []) := rfl
set_option maxRecDepth 100000 in theorem c_172_116 : mm_code 172 116 = some (Instr.lstore 7, 2, 0, 0, 0, []) := rfl
set_option maxRecDepth 100000 in theorem c_172_118 : mm_code 172 118 = some (Instr.ldc2_w 247, 3, 128, 0, 0, [1180]) := rfl
set_option maxRecDepth 100000 in theorem c_172_121 : mm_code 172 121 = some (Instr.lstore 9, 2, 0, 0, 0, []) := rfl
set_option maxRecDepth 100000 in theorem c_172_123 : mm_code 172 123 = some (Instr.bipush 72, 2, 72, 0, 0, []) := rfl
set_option maxRecDepth 100000 in theorem c_172_125 : mm_code 172 125 = some (Instr.istore 11, 2, 0, 0, 0, []) := rfl
set_option maxRecDepth 100000 in theorem c_172_127 : mm_code 172 127 = some (Instr.iload 6, 2, 0, 0, 0, []) := rfl
set_option maxRecDepth 100000 in theorem c_172_129 : mm_code 172 129 = some (Instr.iload_n 3, 1, 0, 0, 0, []) := rfl
set_option maxRecDepth 100000 in theorem c_172_130 : mm_code 172 130 = some (Instr.if_icmp .ge 294, 3, 0, 424, 0, []) := rfl
set_option maxRecDepth 100000 in theorem c_172_133 : mm_code 172 133 = some (Instr.lload 7, 2, 0, 0, 0, []) := rfl
set_option maxRecDepth 100000 in theorem c_172_135 : mm_code 172 135 = some (Instr.lstore 12, 2, 0, 0, 0, []) := rfl
set_option maxRecDepth 100000 in theorem c_172_137 : mm_code 172 137 = some (Instr.lconst 1, 1, 1, 0, 0, []) := rfl
set_option maxRecDepth 100000 in theorem c_172_138 : mm_code 172 138 = some (Instr.lstore 14, 2, 0, 0, 0, []) := rfl
set_option maxRecDepth 100000 in theorem c_172_140 : mm_code 172 140 = some (Instr.iconst 1, 1, 1, 0, 0, []) := rfl
set_option maxRecDepth 100000 in theorem c_172_141 : mm_code 172 141 = some (Instr.istore 16, 2, 0, 0, 0, []) := rfl
set_option maxRecDepth 100000 in theorem c_172_143 : mm_code 172 143 = some (Instr.bipush 36, 2, 36, 0, 0, []) := rfl
set_option maxRecDepth 100000 in theorem c_172_145 : mm_code 172 145 = some (Instr.istore 17, 2, 0, 0, 0, []) := rfl
set_option maxRecDepth 100000 in theorem c_172_147 : mm_code 172 147 = some (Instr.iload 16, 2, 0, 0, 0, []) := rfl
set_option maxRecDepth 100000 in theorem c_172_149 : mm_code 172 149 = some (Instr.ifCond .eq 115, 3, 0, 264, 0, []) := rfl
set_option maxRecDepth 100000 in theorem c_172_152 : mm_code 172 152 = some (Instr.iload 6, 2, 0, 0, 0, []) := rfl
set_option maxRecDepth 100000 in theorem c_172_154 : mm_code 172 154 = some (Instr.iload_n 3, 1, 0, 0, 0, []) := rfl
set_option maxRecDepth 100000 in theorem c_172_155 : mm_code 172 155 = some (Instr.if_icmp .ge 15, 3, 0, 170, 0, []) := rfl
set_option maxRecDepth 100000 in theorem c_172_158 : mm_code 172 158 = some (Instr.aload_n 1, 1, 0, 0, 0, []) := rfl
set_option maxRecDepth 100000 in theorem c_172_159 : mm_code 172 159 = some (Instr.iload_n 2, 1, 0, 0, 0, []) := rfl
set_option maxRecDepth 100000 in theorem c_172_160 : mm_code 172 160 = some (Instr.iload 6, 2, 0, 0, 0, []) := rfl
set_option maxRecDepth 100000 in theorem c_172_162 : mm_code 172 162 = some (Instr.iadd, 1, 0, 0, 0, []) := rfl
set_option maxRecDepth 100000 in theorem c_172_163 : mm_code 172 163 = some (Instr.iaload, 1, 0, 0, 0, []) := rfl
set_option maxRecDepth 100000 in theorem c_172_164 : mm_code 172 164 = some (Instr.invokestatic 249, 3, 0, 173, 1, [1181, 1182, 66, 1183]) := rfl
set_option maxRecDepth 100000 in theorem c_172_167 : mm_code 172 167 = some (Instr.goto 4, 3, 0, 171, 0, []) := rfl
set_option maxRecDepth 100000 in theorem c_172_170 : mm_code 172 170 = some (Instr.iconst (-1), 1, (-1), 0, 0, []) := rfl
set_option maxRecDepth 100000 in theorem c_172_171 : mm_code 172 171 = some (Instr.istore 18, 2, 0, 0, 0, []) := rfl
set_option maxRecDepth 100000 in theorem c_172_173 : mm_code 172 173 = some (Instr.iload 18, 2, 0, 0, 0, []) := rfl
set_option maxRecDepth 100000 in theorem c_172_175 : mm_code 172 175 = some (Instr.ifCond .ge 6, 3, 0, 181, 0, []) := rfl
set_option maxRecDepth 100000 in theorem c_172_178 : mm_code 172 178 = some (Instr.iload 6, 2, 0, 0, 0, []) := rfl
set_option maxRecDepth 100000 in theorem c_172_180 : mm_code 172 180 = some (Instr.ireturn, 1, 0, 0, 0, []) := rfl
set_option maxRecDepth 100000 in theorem c_172_181 : mm_code 172 181 = some (Instr.lload 7, 2, 0, 0, 0, []) := rfl
set_option maxRecDepth 100000 in theorem c_172_183 : mm_code 172 183 = some (Instr.iload 18, 2, 0, 0, 0, []) := rfl
set_option maxRecDepth 100000 in theorem c_172_185 : mm_code 172 185 = some (Instr.i2l, 1, 0, 0, 0, []) := rfl
set_option maxRecDepth 100000 in theorem c_172_186 : mm_code 172 186 = some (Instr.lload 14, 2, 0, 0, 0, []) := rfl
set_option maxRecDepth 100000 in theorem c_172_188 : mm_code 172 188 = some (Instr.lmul, 1, 0, 0, 0, []) := rfl
set_option maxRecDepth 100000 in theorem c_172_189 : mm_code 172 189 = some (Instr.ladd, 1, 0, 0, 0, []) := rfl
set_option maxRecDepth 100000 in theorem c_172_190 : mm_code 172 190 = some (Instr.lstore 7, 2, 0, 0, 0, []) := rfl
set_option maxRecDepth 100000 in theorem c_172_192 : mm_code 172 192 = some (Instr.lload 7, 2, 0, 0, 0, []) := rfl
set_option maxRecDepth 100000 in theorem c_172_194 : mm_code 172 194 = some (Instr.ldc2_w 225, 3, 2147483647, 0, 0, [1152]) := rfl
set_option maxRecDepth 100000 in theorem c_172_197 : mm_code 172 197 = some (Instr.lcmp, 1, 0, 0, 0, []) := rfl
set_option maxRecDepth 100000 in theorem c_172_198 : mm_code 172 198 = some (Instr.ifCond .le 6, 3, 0, 204, 0, []) := rfl
set_option maxRecDepth 100000 in theorem c_172_201 : mm_code 172 201 = some (Instr.iload 6, 2, 0, 0, 0, []) := rfl
set_option maxRecDepth 100000 in theorem c_172_203 : mm_code 172 203 = some (Instr.ireturn, 1, 0, 0, 0, []) := rfl
set_option maxRecDepth 100000 in theorem c_172_204 : mm_code 172 204 = some (Instr.iload 17, 2, 0, 0, 0, []) := rfl
set_option maxRecDepth 100000 in theorem c_172_206 : mm_code 172 206 = some (Instr.iload 11, 2, 0, 0, 0, []) := rfl
set_option maxRecDepth 100000 in theorem c_172_208 : mm_code 172 208 = some (Instr.invokestatic 235, 3, 0, 168, 2, [1157, 1158, 66, 1159]) := rfl
set_option maxRecDepth 100000 in theorem c_172_211 : mm_code 172 211 = some (Instr.istore 19, 2, 0, 0, 0, []) := rfl
set_option maxRecDepth 100000 in theorem c_172_213 : mm_code 172 213 = some (Instr.iload 18, 2, 0, 0, 0, []) := rfl
set_option maxRecDepth 100000 in theorem c_172_215 : mm_code 172 215 = some (Instr.iload 19, 2, 0, 0, 0, []) := rfl
set_option maxRecDepth 100000 in theorem c_172_217 : mm_code 172 217 = some (Instr.if_icmp .lt 7, 3, 0, 224, 0, []) := rfl
set_option maxRecDepth 100000 in theorem c_172_220 : mm_code 172 220 = some (Instr.iconst 1, 1, 1, 0, 0, []) := rfl
set_option maxRecDepth 100000 in theorem c_172_221 : mm_code 172 221 = some (Instr.goto 4, 3, 0, 225, 0, []) := rfl
set_option maxRecDepth 100000 in theorem c_172_224 : mm_code 172 224 = some (Instr.iconst 0, 1, 0, 0, 0, []) := rfl
set_option maxRecDepth 100000 in theorem c_172_225 : mm_code 172 225 = some (Instr.istore 16, 2, 0, 0, 0, []) := rfl
set_option maxRecDepth 100000 in theorem c_172_227 : mm_code 172 227 = some (Instr.iload 16, 2, 0, 0, 0, []) := rfl
set_option maxRecDepth 100000 in theorem c_172_229 : mm_code 172 229 = some (Instr.ifCond .eq 26, 3, 0, 255, 0, []) := rfl
set_option maxRecDepth 100000 in theorem c_172_232 : mm_code 172 232 = some (Instr.lload 14, 2, 0, 0, 0, []) := rfl
set_option maxRecDepth 100000 in theorem c_172_234 : mm_code 172 234 = some (Instr.bipush 36, 2, 36, 0, 0, []) := rfl
set_option maxRecDepth 100000 in theorem c_172_236 : mm_code 172 236 = some (Instr.iload 19, 2, 0, 0, 0, []) := rfl
set_option maxRecDepth 100000 in theorem c_172_238 : mm_code 172 238 = some (Instr.isub, 1, 0, 0, 0, []) := rfl
set_option maxRecDepth 100000 in theorem c_172_239 : mm_code 172 239 = some (Instr.i2l, 1, 0, 0, 0, []) := rfl
set_option maxRecDepth 100000 in theorem c_172_240 : mm_code 172 240 = some (Instr.lmul, 1, 0, 0, 0, []) := rfl
set_option maxRecDepth 100000 in theorem c_172_241 : mm_code 172 241 = some (Instr.lstore 14, 2, 0, 0, 0, []) := rfl
set_option maxRecDepth 100000 in theorem c_172_243 : mm_code 172 243 = some (Instr.lload 14, 2, 0, 0, 0, []) := rfl
set_option maxRecDepth 100000 in theorem c_172_245 : mm_code 172 245 = some (Instr.ldc2_w 225, 3, 2147483647, 0, 0, [1152]) := rfl
set_option maxRecDepth 100000 in theorem c_172_248 : mm_code 172 248 = some (Instr.lcmp, 1, 0, 0, 0, []) := rfl
set_option maxRecDepth 100000 in theorem c_172_249 : mm_code 172 249 = some (Instr.ifCond .le 6, 3, 0, 255, 0, []) := rfl
set_option maxRecDepth 100000 in theorem c_172_252 : mm_code 172 252 = some (Instr.iload 6, 2, 0, 0, 0, []) := rfl
set_option maxRecDepth 100000 in theorem c_172_254 : mm_code 172 254 = some (Instr.ireturn, 1, 0, 0, 0, []) := rfl
set_option maxRecDepth 100000 in theorem c_172_255 : mm_code 172 255 = some (Instr.iinc 6 1, 3, 0, 0, 0, []) := rfl
set_option maxRecDepth 100000 in theorem c_172_258 : mm_code 172 258 = some (Instr.iinc 17 36, 3, 0, 0, 0, []) := rfl
set_option maxRecDepth 100000 in theorem c_172_261 : mm_code 172 261 = some (Instr.goto (-114), 3, 0, 147, 0, []) := rfl
set_option maxRecDepth 100000 in theorem c_172_264 : mm_code 172 264 = some (Instr.lload 7, 2, 0, 0, 0, []) := rfl
set_option maxRecDepth 100000 in theorem c_172_266 : mm_code 172 266 = some (Instr.lload 12, 2, 0, 0, 0, []) := rfl
set_option maxRecDepth 100000 in theorem c_172_268 : mm_code 172 268 = some (Instr.lsub, 1, 0, 0, 0, []) := rfl
set_option maxRecDepth 100000 in theorem c_172_269 : mm_code 172 269 = some (Instr.aload_n 0, 1, 0, 0, 0, []) := rfl
set_option maxRecDepth 100000 in theorem c_172_270 : mm_code 172 270 = some (Instr.getfield 244, 3, 0, 10, 36, [893]) := rfl
set_option maxRecDepth 100000 in theorem c_172_273 : mm_code 172 273 = some (Instr.iconst 1, 1, 1, 0, 0, []) := rfl
set_option maxRecDepth 100000 in theorem c_172_274 : mm_code 172 274 = some (Instr.iadd, 1, 0, 0, 0, []) := rfl
set_option maxRecDepth 100000 in theorem c_172_275 : mm_code 172 275 = some (Instr.lload 12, 2, 0, 0, 0, []) := rfl
set_option maxRecDepth 100000 in theorem c_172_277 : mm_code 172 277 = some (Instr.lconst 0, 1, 0, 0, 0, []) := rfl
set_option maxRecDepth 100000 in theorem c_172_278 : mm_code 172 278 = some (Instr.lcmp, 1, 0, 0, 0, []) := rfl
set_option maxRecDepth 100000 in theorem c_172_279 : mm_code 172 279 = some (Instr.ifCond .ne 7, 3, 0, 286, 0, []) := rfl
set_option maxRecDepth 100000 in theorem c_172_282 : mm_code 172 282 = some (Instr.iconst 1, 1, 1, 0, 0, []) := rfl
set_option maxRecDepth 100000 in theorem c_172_283 : mm_code 172 283 = some (Instr.goto 4, 3, 0, 287, 0, []) := rfl
set_option maxRecDepth 100000 in theorem c_172_286 : mm_code 172 286 = some (Instr.iconst 0, 1, 0, 0, 0, []) := rfl
set_option maxRecDepth 100000 in theorem c_172_287 : mm_code 172 287 = some (Instr.invokestatic 231, 3, 0, 170, 3, [1163, 1164, 66, 1165]) := rfl
set_option maxRecDepth 100000 in theorem c_172_290 : mm_code 172 290 = some (Instr.istore 11, 2, 0, 0, 0, []) := rfl
set_option maxRecDepth 100000 in theorem c_172_292 : mm_code 172 292 = some (Instr.lload 9, 2, 0, 0, 0, []) := rfl
set_option maxRecDepth 100000 in theorem c_172_294 : mm_code 172 294 = some (Instr.lload 7, 2, 0, 0, 0, []) := rfl
set_option maxRecDepth 100000 in theorem c_172_296 : mm_code 172 296 = some (Instr.aload_n 0, 1, 0, 0, 0, []) := rfl
set_option maxRecDepth 100000 in theorem c_172_297 : mm_code 172 297 = some (Instr.getfield 244, 3, 0, 10, 36, [893]) := rfl
set_option maxRecDepth 100000 in theorem c_172_300 : mm_code 172 300 = some (Instr.iconst 1, 1, 1, 0, 0, []) := rfl
set_option maxRecDepth 100000 in theorem c_172_301 : mm_code 172 301 = some (Instr.iadd, 1, 0, 0, 0, []) := rfl
set_option maxRecDepth 100000 in theorem c_172_302 : mm_code 172 302 = some (Instr.i2l, 1, 0, 0, 0, []) := rfl
set_option maxRecDepth 100000 in theorem c_172_303 : mm_code 172 303 = some (Instr.ldiv, 1, 0, 0, 0, []) := rfl
set_option maxRecDepth 100000 in theorem c_172_304 : mm_code 172 304 = some (Instr.ladd, 1, 0, 0, 0, []) := rfl
set_option maxRecDepth 100000 in theorem c_172_305 : mm_code 172 305 = some (Instr.lstore 9, 2, 0, 0, 0, []) := rfl
set_option maxRecDepth 100000 in theorem c_172_307 : mm_code 172 307 = some (Instr.lload 7, 2, 0, 0, 0, []) := rfl
set_option maxRecDepth 100000 in theorem c_172_309 : mm_code 172 309 = some (Instr.aload_n 0, 1, 0, 0, 0, []) := rfl
set_option maxRecDepth 100000 in theorem c_172_310 : mm_code 172 310 = some (Instr.getfield 244, 3, 0, 10, 36, [893]) := rfl
set_option maxRecDepth 100000 in theorem c_172_313 : mm_code 172 313 = some (Instr.iconst 1, 1, 1, 0, 0, []) := rfl
set_option maxRecDepth 100000 in theorem c_172_314 : mm_code 172 314 = some (Instr.iadd, 1, 0, 0, 0, []) := rfl
set_option maxRecDepth 100000 in theorem c_172_315 : mm_code 172 315 = some (Instr.i2l, 1, 0, 0, 0, []) := rfl
set_option maxRecDepth 100000 in theorem c_172_316 : mm_code 172 316 = some (Instr.lrem, 1, 0, 0, 0, []) := rfl
set_option maxRecDepth 100000 in theorem c_172_317 : mm_code 172 317 = some (Instr.lstore 7, 2, 0, 0, 0, []) := rfl
set_option maxRecDepth 100000 in theorem c_172_319 : mm_code 172 319 = some (Instr.lload 9, 2, 0, 0, 0, []) := rfl
set_option maxRecDepth 100000 in theorem c_172_321 : mm_code 172 321 = some (Instr.ldc2_w 252, 3, 1114111, 0, 0, [1184]) := rfl
set_option maxRecDepth 100000 in theorem c_172_324 : mm_code 172 324 = some (Instr.lcmp, 1, 0, 0, 0, []) := rfl
set_option maxRecDepth 100000 in theorem c_172_325 : mm_code 172 325 = some (Instr.ifCond .gt 12, 3, 0, 337, 0, []) := rfl
set_option maxRecDepth 100000 in theorem c_172_328 : mm_code 172 328 = some (Instr.lload 9, 2, 0, 0, 0, []) := rfl
set_option maxRecDepth 100000 in theorem c_172_330 : mm_code 172 330 = some (Instr.l2i, 1, 0, 0, 0, []) := rfl
set_option maxRecDepth 100000 in theorem c_172_331 : mm_code 172 331 = some (Instr.invokestatic 138, 3, 0, 141, 1, [1045, 1046, 66, 1047]) := rfl
set_option maxRecDepth 100000 in theorem c_172_334 : mm_code 172 334 = some (Instr.ifCond .ne 8, 3, 0, 342, 0, []) := rfl
set_option maxRecDepth 100000 in theorem c_172_337 : mm_code 172 337 = some (Instr.iload 6, 2, 0, 0, 0, []) := rfl
set_option maxRecDepth 100000 in theorem c_172_339 : mm_code 172 339 = some (Instr.iconst 1, 1, 1, 0, 0, []) := rfl
set_option maxRecDepth 100000 in theorem c_172_340 : mm_code 172 340 = some (Instr.isub, 1, 0, 0, 0, []) := rfl
set_option maxRecDepth 100000 in theorem c_172_341 : mm_code 172 341 = some (Instr.ireturn, 1, 0, 0, 0, []) := rfl
set_option maxRecDepth 100000 in theorem c_172_342 : mm_code 172 342 = some (Instr.aload_n 0, 1, 0, 0, 0, []) := rfl
set_option maxRecDepth 100000 in theorem c_172_343 : mm_code 172 343 = some (Instr.getfield 244, 3, 0, 10, 36, [893]) := rfl
set_option maxRecDepth 100000 in theorem c_172_346 : mm_code 172 346 = some (Instr.sipush 300, 3, 300, 0, 0, []) := rfl
set_option maxRecDepth 100000 in theorem c_172_349 : mm_code 172 349 = some (Instr.if_icmp .ne 8, 3, 0, 357, 0, []) := rfl
set_option maxRecDepth 100000 in theorem c_172_352 : mm_code 172 352 = some (Instr.iload 6, 2, 0, 0, 0, []) := rfl
set_option maxRecDepth 100000 in theorem c_172_354 : mm_code 172 354 = some (Instr.iconst 1, 1, 1, 0, 0, []) := rfl
set_option maxRecDepth 100000 in theorem c_172_355 : mm_code 172 355 = some (Instr.isub, 1, 0, 0, 0, []) := rfl
set_option maxRecDepth 100000 in theorem c_172_356 : mm_code 172 356 = some (Instr.ireturn, 1, 0, 0, 0, []) := rfl
set_option maxRecDepth 100000 in theorem c_172_357 : mm_code 172 357 = some (Instr.aload_n 0, 1, 0, 0, 0, []) := rfl
set_option maxRecDepth 100000 in theorem c_172_358 : mm_code 172 358 = some (Instr.getfield 244, 3, 0, 10, 36, [893]) := rfl
set_option maxRecDepth 100000 in theorem c_172_361 : mm_code 172 361 = some (Instr.istore 17, 2, 0, 0, 0, []) := rfl
set_option maxRecDepth 100000 in theorem c_172_363 : mm_code 172 363 = some (Instr.iload 17, 2, 0, 0, 0, []) := rfl
set_option maxRecDepth 100000 in theorem c_172_365 : mm_code 172 365 = some (Instr.i2l, 1, 0, 0, 0, []) := rfl
set_option maxRecDepth 100000 in theorem c_172_366 : mm_code 172 366 = some (Instr.lload 7, 2, 0, 0, 0, []) := rfl
set_option maxRecDepth 100000 in theorem c_172_368 : mm_code 172 368 = some (Instr.lcmp, 1, 0, 0, 0, []) := rfl
set_option maxRecDepth 100000 in theorem c_172_369 : mm_code 172 369 = some (Instr.ifCond .le 25, 3, 0, 394, 0, []) := rfl
set_option maxRecDepth 100000 in theorem c_172_372 : mm_code 172 372 = some (Instr.aload_n 0, 1, 0, 0, 0, []) := rfl
set_option maxRecDepth 100000 in theorem c_172_373 : mm_code 172 373 = some (Instr.getfield 81, 3, 0, 10, 35, [892]) := rfl
set_option maxRecDepth 100000 in theorem c_172_376 : mm_code 172 376 = some (Instr.iload 17, 2, 0, 0, 0, []) := rfl
set_option maxRecDepth 100000 in theorem c_172_378 : mm_code 172 378 = some (Instr.aload_n 0, 1, 0, 0, 0, []) := rfl
set_option maxRecDepth 100000 in theorem c_172_379 : mm_code 172 379 = some (Instr.getfield 81, 3, 0, 10, 35, [892]) := rfl
set_option maxRecDepth 100000 in theorem c_172_382 : mm_code 172 382 = some (Instr.iload 17, 2, 0, 0, 0, []) := rfl
set_option maxRecDepth 100000 in theorem c_172_384 : mm_code 172 384 = some (Instr.iconst 1, 1, 1, 0, 0, []) := rfl
set_option maxRecDepth 100000 in theorem c_172_385 : mm_code 172 385 = some (Instr.isub, 1, 0, 0, 0, []) := rfl
set_option maxRecDepth 100000 in theorem c_172_386 : mm_code 172 386 = some (Instr.iaload, 1, 0, 0, 0, []) := rfl
set_option maxRecDepth 100000 in theorem c_172_387 : mm_code 172 387 = some (Instr.iastore, 1, 0, 0, 0, []) := rfl
set_option maxRecDepth 100000 in theorem c_172_388 : mm_code 172 388 = some (Instr.iinc 17 (-1), 3, 0, 0, 0, []) := rfl
set_option maxRecDepth 100000 in theorem c_172_391 : mm_code 172 391 = some (Instr.goto (-28), 3, 0, 363, 0, []) := rfl
set_option maxRecDepth 100000 in theorem c_172_394 : mm_code 172 394 = some (Instr.aload_n 0, 1, 0, 0, 0, []) := rfl
set_option maxRecDepth 100000 in theorem c_172_395 : mm_code 172 395 = some (Instr.getfield 81, 3, 0, 10, 35, [892]) := rfl
set_option maxRecDepth 100000 in theorem c_172_398 : mm_code 172 398 = some (Instr.lload 7, 2, 0, 0, 0, []) := rfl
set_option maxRecDepth 100000 in theorem c_172_400 : mm_code 172 400 = some (Instr.l2i, 1, 0, 0, 0, []) := rfl
set_option maxRecDepth 100000 in theorem c_172_401 : mm_code 172 401 = some (Instr.lload 9, 2, 0, 0, 0, []) := rfl
set_option maxRecDepth 100000 in theorem c_172_403 : mm_code 172 403 = some (Instr.l2i, 1, 0, 0, 0, []) := rfl
set_option maxRecDepth 100000 in theorem c_172_404 : mm_code 172 404 = some (Instr.iastore, 1, 0, 0, 0, []) := rfl
set_option maxRecDepth 100000 in theorem c_172_405 : mm_code 172 405 = some (Instr.aload_n 0, 1, 0, 0, 0, []) := rfl
set_option maxRecDepth 100000 in theorem c_172_406 : mm_code 172 406 = some (Instr.dup, 1, 0, 0, 0, []) := rfl
set_option maxRecDepth 100000 in theorem c_172_407 : mm_code 172 407 = some (Instr.getfield 244, 3, 0, 10, 36, [893]) := rfl
set_option maxRecDepth 100000 in theorem c_172_410 : mm_code 172 410 = some (Instr.iconst 1, 1, 1, 0, 0, []) := rfl
set_option maxRecDepth 100000 in theorem c_172_411 : mm_code 172 411 = some (Instr.iadd, 1, 0, 0, 0, []) := rfl
set_option maxRecDepth 100000 in theorem c_172_412 : mm_code 172 412 = some (Instr.putfield 244, 3, 1, 10, 36, [893]) := rfl
set_option maxRecDepth 100000 in theorem c_172_415 : mm_code 172 415 = some (Instr.lload 7, 2, 0, 0, 0, []) := rfl
set_option maxRecDepth 100000 in theorem c_172_417 : mm_code 172 417 = some (Instr.lconst 1, 1, 1, 0, 0, []) := rfl
set_option maxRecDepth 100000 in theorem c_172_418 : mm_code 172 418 = some (Instr.ladd, 1, 0, 0, 0, []) := rfl
set_option maxRecDepth 100000 in theorem c_172_419 : mm_code 172 419 = some (Instr.lstore 7, 2, 0, 0, 0, []) := rfl
set_option maxRecDepth 100000 in theorem c_172_421 : mm_code 172 421 = some (Instr.goto (-294), 3, 0, 127, 0, []) := rfl
set_option maxRecDepth 100000 in theorem c_172_424 : mm_code 172 424 = some (Instr.iconst (-1), 1, (-1), 0, 0, []) := rfl
set_option maxRecDepth 100000 in theorem c_172_425 : mm_code 172 425 = some (Instr.ireturn, 1, 0, 0, 0, []) := rfl
theorem c_173_0 : mm_code 173 0 = some (Instr.iload_n 0, 1, 0, 0, 0, []) := rfl
theorem c_173_1 : mm_code 173 1 = some (Instr.bipush 97, 2, 97, 0, 0, []) := rfl
theorem c_173_3 : mm_code 173 3 = some (Instr.bipush 122, 2, 122, 0, 0, []) := rfl
theorem c_173_5 : mm_code 173 5 = some (Instr.invokestatic 116, 3, 0, 135, 3, [1022, 1023, 66, 1024]) := rfl
theorem c_173_8 : mm_code 173 8 = some (Instr.ifCond .eq 10, 3, 0, 18, 0, []) := rfl
theorem c_173_11 : mm_code 173 11 = some (Instr.iload_n 0, 1, 0, 0, 0, []) := rfl
theorem c_173_12 : mm_code 173 12 = some (Instr.bipush 97, 2, 97, 0, 0, []) := rfl
theorem c_173_14 : mm_code 173 14 = some (Instr.isub, 1, 0, 0, 0, []) := rfl
theorem c_173_15 : mm_code 173 15 = some (Instr.goto 43, 3, 0, 58, 0, []) := rfl
theorem c_173_18 : mm_code 173 18 = some (Instr.iload_n 0, 1, 0, 0, 0, []) := rfl
theorem c_173_19 : mm_code 173 19 = some (Instr.bipush 65, 2, 65, 0, 0, []) := rfl
theorem c_173_21 : mm_code 173 21 = some (Instr.bipush 90, 2, 90, 0, 0, []) := rfl
theorem c_173_23 : mm_code 173 23 = some (Instr.invokestatic 116, 3, 0, 135, 3, [1022, 1023, 66, 1024]) := rfl
theorem c_173_26 : mm_code 173 26 = some (Instr.ifCond .eq 10, 3, 0, 36, 0, []) := rfl
theorem c_173_29 : mm_code 173 29 = some (Instr.iload_n 0, 1, 0, 0, 0, []) := rfl
theorem c_173_30 : mm_code 173 30 = some (Instr.bipush 65, 2, 65, 0, 0, []) := rfl
theorem c_173_32 : mm_code 173 32 = some (Instr.isub, 1, 0, 0, 0, []) := rfl
theorem c_173_33 : mm_code 173 33 = some (Instr.goto 25, 3, 0, 58, 0, []) := rfl
theorem c_173_36 : mm_code 173 36 = some (Instr.iload_n 0, 1, 0, 0, 0, []) := rfl
theorem c_173_37 : mm_code 173 37 = some (Instr.bipush 48, 2, 48, 0, 0, []) := rfl
theorem c_173_39 : mm_code 173 39 = some (Instr.bipush 57, 2, 57, 0, 0, []) := rfl
theorem c_173_41 : mm_code 173 41 = some (Instr.invokestatic 116, 3, 0, 135, 3, [1022, 1023, 66, 1024]) := rfl
theorem c_173_44 : mm_code 173 44 = some (Instr.ifCond .eq 13, 3, 0, 57, 0, []) := rfl
theorem c_173_47 : mm_code 173 47 = some (Instr.iload_n 0, 1, 0, 0, 0, []) := rfl
theorem c_173_48 : mm_code 173 48 = some (Instr.bipush 48, 2, 48, 0, 0, []) := rfl
theorem c_173_50 : mm_code 173 50 = some (Instr.isub, 1, 0, 0, 0, []) := rfl
theorem c_173_51 : mm_code 173 51 = some (Instr.bipush 26, 2, 26, 0, 0, []) := rfl
theorem c_173_53 : mm_code 173 53 = some (Instr.iadd, 1, 0, 0, 0, []) := rfl
theorem c_173_54 : mm_code 173 54 = some (Instr.goto 4, 3, 0, 58, 0, []) := rfl
theorem c_173_57 : mm_code 173 57 = some (Instr.iconst (-1), 1, (-1), 0, 0, []) := rfl
theorem c_173_58 : mm_code 173 58 = some (Instr.ireturn, 1, 0, 0, 0, []) := rfl
theorem c_174_0 : mm_code 174 0 = some (Instr.aload_n 0, 1, 0, 0, 0, []) := rfl
theorem c_174_1 : mm_code 174 1 = some (Instr.iconst 0, 1, 0, 0, 0, []) := rfl
theorem c_174_2 : mm_code 174 2 = some (Instr.putfield 112, 3, 1, 10, 0, [857]) := rfl
theorem c_174_5 : mm_code 174 5 = some (Instr.aload_n 0, 1, 0, 0, 0, []) := rfl
theorem c_174_6 : mm_code 174 6 = some (Instr.iconst 0, 1, 0, 0, 0, []) := rfl
theorem c_174_7 : mm_code 174 7 = some (Instr.putfield 257, 3, 1, 10, 37, [894]) := rfl
theorem c_174_10 : mm_code 174 10 = some (Instr.aload_n 0, 1, 0, 0, 0, []) := rfl
theorem c_174_11 : mm_code 174 11 = some (Instr.iconst 0, 1, 0, 0, 0, []) := rfl
theorem c_174_12 : mm_code 174 12 = some (Instr.putfield 260, 3, 1, 10, 38, [895]) := rfl
theorem c_174_15 : mm_code 174 15 = some (Instr.aload_n 0, 1, 0, 0, 0, []) := rfl
theorem c_174_16 : mm_code 174 16 = some (Instr.iconst 0, 1, 0, 0, 0, []) := rfl
theorem c_174_17 : mm_code 174 17 = some (Instr.putfield 263, 3, 1, 10, 39, [896]) := rfl
theorem c_174_20 : mm_code 174 20 = some (Instr.aload_n 0, 1, 0, 0, 0, []) := rfl
theorem c_174_21 : mm_code 174 21 = some (Instr.iconst 0, 1, 0, 0, 0, []) := rfl
theorem c_174_22 : mm_code 174 22 = some (Instr.putfield 307, 3, 1, 10, 40, [897]) := rfl
theorem c_174_25 : mm_code 174 25 = some (Instr.aload_n 0, 1, 0, 0, 0, []) := rfl
theorem c_174_26 : mm_code 174 26 = some (Instr.iconst 0, 1, 0, 0, 0, []) := rfl
theorem c_174_27 : mm_code 174 27 = some (Instr.putfield 284, 3, 1, 10, 50, [907]) := rfl
theorem c_174_30 : mm_code 174 30 = some (Instr.aload_n 0, 1, 0, 0, 0, []) := rfl
theorem c_174_31 : mm_code 174 31 = some (Instr.iload_n 1, 1, 0, 0, 0, []) := rfl
theorem c_174_32 : mm_code 174 32 = some (Instr.invokevirtual 319, 3, 10, 175, 1, [1189, 1191, 41, 66, 1192]) := rfl
theorem c_174_35 : mm_code 174 35 = some (Instr.aload_n 0, 1, 0, 0, 0, []) := rfl
theorem c_174_36 : mm_code 174 36 = some (Instr.getfield 257, 3, 0, 10, 37, [894]) := rfl
theorem c_174_39 : mm_code 174 39 = some (Instr.ifCond .le 11, 3, 0, 50, 0, []) := rfl
theorem c_174_42 : mm_code 174 42 = some (Instr.bipush (-10), 2, (-10), 0, 0, []) := rfl
theorem c_174_44 : mm_code 174 44 = some (Instr.aload_n 0, 1, 0, 0, 0, []) := rfl
theorem c_174_45 : mm_code 174 45 = some (Instr.getfield 257, 3, 0, 10, 37, [894]) := rfl
theorem c_174_48 : mm_code 174 48 = some (Instr.isub, 1, 0, 0, 0, []) := rfl
theorem c_174_49 : mm_code 174 49 = some (Instr.ireturn, 1, 0, 0, 0, []) := rfl
theorem c_174_50 : mm_code 174 50 = some (Instr.iconst 0, 1, 0, 0, 0, []) := rfl
theorem c_174_51 : mm_code 174 51 = some (Instr.istore_n 2, 1, 0, 0, 0, []) := rfl
theorem c_174_52 : mm_code 174 52 = some (Instr.iload_n 2, 1, 0, 0, 0, []) := rfl
theorem c_174_53 : mm_code 174 53 = some (Instr.aload_n 0, 1, 0, 0, 0, []) := rfl
theorem c_174_54 : mm_code 174 54 = some (Instr.getfield 284, 3, 0, 10, 50, [907]) := rfl
theorem c_174_57 : mm_code 174 57 = some (Instr.if_icmp .ge 21, 3, 0, 78, 0, []) := rfl
theorem c_174_60 : mm_code 174 60 = some (Instr.aload_n 0, 1, 0, 0, 0, []) := rfl
theorem c_174_61 : mm_code 174 61 = some (Instr.getfield 96, 3, 0, 10, 47, [904]) := rfl
theorem c_174_64 : mm_code 174 64 = some (Instr.iload_n 2, 1, 0, 0, 0, []) := rfl
theorem c_174_65 : mm_code 174 65 = some (Instr.aload_n 0, 1, 0, 0, 0, []) := rfl
theorem c_174_66 : mm_code 174 66 = some (Instr.getfield 99, 3, 0, 10, 49, [906]) := rfl
theorem c_174_69 : mm_code 174 69 = some (Instr.iload_n 2, 1, 0, 0, 0, []) := rfl
set_option maxRecDepth 100000 in theorem c_174_70 : mm_code 174 70 = some (Instr.baload, 1, 0, 0, 0, []) := rfl
set_option maxRecDepth 100000 in theorem c_174_71 : mm_code 174 71 = some (Instr.bastore, 1, 0, 0, 0, []) := rfl
set_option maxRecDepth 100000 in theorem c_174_72 : mm_code 174 72 = some (Instr.iinc 2 1, 3, 0, 0, 0, []) := rfl
set_option maxRecDepth 100000 in theorem c_174_75 : mm_code 174 75 = some (Instr.goto (-23), 3, 0, 52, 0, []) := rfl
set_option maxRecDepth 100000 in theorem c_174_78 : mm_code 174 78 = some (Instr.aload_n 0, 1, 0, 0, 0, []) := rfl
set_option maxRecDepth 100000 in theorem c_174_79 : mm_code 174 79 = some (Instr.aload_n 0, 1, 0, 0, 0, []) := rfl
set_option maxRecDepth 100000 in theorem c_174_80 : mm_code 174 80 = some (Instr.getfield 284, 3, 0, 10, 50, [907]) := rfl
set_option maxRecDepth 100000 in theorem c_174_83 : mm_code 174 83 = some (Instr.putfield 323, 3, 1, 10, 48, [905]) := rfl
set_option maxRecDepth 100000 in theorem c_174_86 : mm_code 174 86 = some (Instr.aload_n 0, 1, 0, 0, 0, []) := rfl
set_option maxRecDepth 100000 in theorem c_174_87 : mm_code 174 87 = some (Instr.getfield 323, 3, 0, 10, 48, [905]) := rfl
set_option maxRecDepth 100000 in theorem c_174_90 : mm_code 174 90 = some (Instr.ireturn, 1, 0, 0, 0, []) := rfl
theorem c_175_0 : mm_code 175 0 = some (Instr.aload_n 0, 1, 0, 0, 0, []) := rfl
theorem c_175_1 : mm_code 175 1 = some (Instr.invokevirtual 135, 3, 10, 137, 0, [1029, 1031, 24, 66, 1032]) := rfl
theorem c_175_4 : mm_code 175 4 = some (Instr.aload_n 0, 1, 0, 0, 0, []) := rfl
theorem c_175_5 : mm_code 175 5 = some (Instr.getfield 128, 3, 0, 10, 26, [883]) := rfl
theorem c_175_8 : mm_code 175 8 = some (Instr.iconst (-1), 1, (-1), 0, 0, []) := rfl
theorem c_175_9 : mm_code 175 9 = some (Instr.if_icmp .eq 38, 3, 0, 47, 0, []) := rfl
theorem c_175_12 : mm_code 175 12 = some (Instr.aload_n 0, 1, 0, 0, 0, []) := rfl
theorem c_175_13 : mm_code 175 13 = some (Instr.getfield 128, 3, 0, 10, 26, [883]) := rfl
theorem c_175_16 : mm_code 175 16 = some (Instr.bipush (-2), 2, (-2), 0, 0, []) := rfl
theorem c_175_18 : mm_code 175 18 = some (Instr.if_icmp .ne 16, 3, 0, 34, 0, []) := rfl
theorem c_175_21 : mm_code 175 21 = some (Instr.aload_n 0, 1, 0, 0, 0, []) := rfl
theorem c_175_22 : mm_code 175 22 = some (Instr.bipush 60, 2, 60, 0, 0, []) := rfl
theorem c_175_24 : mm_code 175 24 = some (Instr.iconst 0, 1, 0, 0, 0, []) := rfl
theorem c_175_25 : mm_code 175 25 = some (Instr.sipush 300, 3, 300, 0, 0, []) := rfl
theorem c_175_28 : mm_code 175 28 = some (Instr.invokevirtual 269, 3, 10, 176, 3, [1193, 1195, 42, 66, 1196]) := rfl
theorem c_175_31 : mm_code 175 31 = some (Instr.goto 14, 3, 0, 45, 0, []) := rfl
theorem c_175_34 : mm_code 175 34 = some (Instr.aload_n 0, 1, 0, 0, 0, []) := rfl
theorem c_175_35 : mm_code 175 35 = some (Instr.bipush 10, 2, 10, 0, 0, []) := rfl
theorem c_175_37 : mm_code 175 37 = some (Instr.iconst 0, 1, 0, 0, 0, []) := rfl
theorem c_175_38 : mm_code 175 38 = some (Instr.aload_n 0, 1, 0, 0, 0, []) := rfl
theorem c_175_39 : mm_code 175 39 = some (Instr.getfield 128, 3, 0, 10, 26, [883]) := rfl
theorem c_175_42 : mm_code 175 42 = some (Instr.invokevirtual 269, 3, 10, 176, 3, [1193, 1195, 42, 66, 1196]) := rfl
theorem c_175_45 : mm_code 175 45 = some (Instr.istore_n 2, 1, 0, 0, 0, []) := rfl
theorem c_175_46 : mm_code 175 46 = some (Instr.return_, 1, 0, 0, 0, []) := rfl
theorem c_175_47 : mm_code 175 47 = some (Instr.aload_n 0, 1, 0, 0, 0, []) := rfl
theorem c_175_48 : mm_code 175 48 = some (Instr.invokevirtual 297, 3, 10, 177, 0, [1197, 1199, 43, 66, 1200]) := rfl
theorem c_175_51 : mm_code 175 51 = some (Instr.ifCond .ne 4, 3, 0, 55, 0, []) := rfl
theorem c_175_54 : mm_code 175 54 = some (Instr.return_, 1, 0, 0, 0, []) := rfl
theorem c_175_55 : mm_code 175 55 = some (Instr.aload_n 0, 1, 0, 0, 0, []) := rfl
theorem c_175_56 : mm_code 175 56 = some (Instr.invokevirtual 301, 3, 10, 178, 0, [1201, 1203, 44, 66, 1204]) := rfl
theorem c_175_59 : mm_code 175 59 = some (Instr.iconst 0, 1, 0, 0, 0, []) := rfl
theorem c_175_60 : mm_code 175 60 = some (Instr.istore_n 2, 1, 0, 0, 0, []) := rfl
theorem c_175_61 : mm_code 175 61 = some (Instr.iload_n 2, 1, 0, 0, 0, []) := rfl
theorem c_175_62 : mm_code 175 62 = some (Instr.aload_n 0, 1, 0, 0, 0, []) := rfl
theorem c_175_63 : mm_code 175 63 = some (Instr.getfield 272, 3, 0, 10, 43, [900]) := rfl
theorem c_175_66 : mm_code 175 66 = some (Instr.if_icmp .ge 28, 3, 0, 94, 0, []) := rfl
theorem c_175_69 : mm_code 175 69 = some (Instr.aload_n 0, 1, 0, 0, 0, []) := rfl
theorem c_175_70 : mm_code 175 70 = some (Instr.iload_n 2, 1, 0, 0, 0, []) := rfl
theorem c_175_71 : mm_code 175 71 = some (Instr.invokevirtual 304, 3, 10, 179, 1, [1205, 1207, 45, 66, 1208]) := rfl
theorem c_175_74 : mm_code 175 74 = some (Instr.ifCond .ne 4, 3, 0, 78, 0, []) := rfl
theorem c_175_77 : mm_code 175 77 = some (Instr.return_, 1, 0, 0, 0, []) := rfl
set_option maxRecDepth 100000 in theorem c_175_78 : mm_code 175 78 = some (Instr.aload_n 0, 1, 0, 0, 0, []) := rfl
set_option maxRecDepth 100000 in theorem c_175_79 : mm_code 175 79 = some (Instr.dup, 1, 0, 0, 0, []) := rfl
set_option maxRecDepth 100000 in theorem c_175_80 : mm_code 175 80 = some (Instr.getfield 307, 3, 0, 10, 40, [897]) := rfl
set_option maxRecDepth 100000 in theorem c_175_83 : mm_code 175 83 = some (Instr.iconst 1, 1, 1, 0, 0, []) := rfl
set_option maxRecDepth 100000 in theorem c_175_84 : mm_code 175 84 = some (Instr.iadd, 1, 0, 0, 0, []) := rfl
set_option maxRecDepth 100000 in theorem c_175_85 : mm_code 175 85 = some (Instr.putfield 307, 3, 1, 10, 40, [897]) := rfl
set_option maxRecDepth 100000 in theorem c_175_88 : mm_code 175 88 = some (Instr.iinc 2 1, 3, 0, 0, 0, []) := rfl
set_option maxRecDepth 100000 in theorem c_175_91 : mm_code 175 91 = some (Instr.goto (-30), 3, 0, 61, 0, []) := rfl
set_option maxRecDepth 100000 in theorem c_175_94 : mm_code 175 94 = some (Instr.aload_n 0, 1, 0, 0, 0, []) := rfl
set_option maxRecDepth 100000 in theorem c_175_95 : mm_code 175 95 = some (Instr.invokevirtual 310, 3, 10, 182, 0, [1217, 1219, 48, 66, 1220]) := rfl
set_option maxRecDepth 100000 in theorem c_175_98 : mm_code 175 98 = some (Instr.ifCond .ne 4, 3, 0, 102, 0, []) := rfl
set_option maxRecDepth 100000 in theorem c_175_101 : mm_code 175 101 = some (Instr.return_, 1, 0, 0, 0, []) := rfl
set_option maxRecDepth 100000 in theorem c_175_102 : mm_code 175 102 = some (Instr.iload_n 1, 1, 0, 0, 0, []) := rfl
set_option maxRecDepth 100000 in theorem c_175_103 : mm_code 175 103 = some (Instr.ifCond .eq 10, 3, 0, 113, 0, []) := rfl
set_option maxRecDepth 100000 in theorem c_175_106 : mm_code 175 106 = some (Instr.aload_n 0, 1, 0, 0, 0, []) := rfl
set_option maxRecDepth 100000 in theorem c_175_107 : mm_code 175 107 = some (Instr.invokevirtual 313, 3, 10, 184, 0, [1225, 1227, 50, 66, 1228]) := rfl
set_option maxRecDepth 100000 in theorem c_175_110 : mm_code 175 110 = some (Instr.goto 7, 3, 0, 117, 0, []) := rfl
set_option maxRecDepth 100000 in theorem c_175_113 : mm_code 175 113 = some (Instr.aload_n 0, 1, 0, 0, 0, []) := rfl
set_option maxRecDepth 100000 in theorem c_175_114 : mm_code 175 114 = some (Instr.invokevirtual 316, 3, 10, 187, 0, [1237, 1239, 53, 66, 1240]) := rfl
set_option maxRecDepth 100000 in theorem c_175_117 : mm_code 175 117 = some (Instr.return_, 1, 0, 0, 0, []) := rfl
theorem c_176_0 : mm_code 176 0 = some (Instr.aload_n 0, 1, 0, 0, 0, []) := rfl
theorem c_176_1 : mm_code 176 1 = some (Instr.getfield 257, 3, 0, 10, 37, [894]) := rfl
theorem c_176_4 : mm_code 176 4 = some (Instr.ifCond .ne 18, 3, 0, 22, 0, []) := rfl
theorem c_176_7 : mm_code 176 7 = some (Instr.aload_n 0, 1, 0, 0, 0, []) := rfl
theorem c_176_8 : mm_code 176 8 = some (Instr.iload_n 1, 1, 0, 0, 0, []) := rfl
theorem c_176_9 : mm_code 176 9 = some (Instr.putfield 257, 3, 1, 10, 37, [894]) := rfl
theorem c_176_12 : mm_code 176 12 = some (Instr.aload_n 0, 1, 0, 0, 0, []) := rfl
theorem c_176_13 : mm_code 176 13 = some (Instr.iload_n 2, 1, 0, 0, 0, []) := rfl
theorem c_176_14 : mm_code 176 14 = some (Instr.putfield 260, 3, 1, 10, 38, [895]) := rfl
theorem c_176_17 : mm_code 176 17 = some (Instr.aload_n 0, 1, 0, 0, 0, []) := rfl
theorem c_176_18 : mm_code 176 18 = some (Instr.iload_n 3, 1, 0, 0, 0, []) := rfl
theorem c_176_19 : mm_code 176 19 = some (Instr.putfield 263, 3, 1, 10, 39, [896]) := rfl
theorem c_176_22 : mm_code 176 22 = some (Instr.iconst 0, 1, 0, 0, 0, []) := rfl
theorem c_176_23 : mm_code 176 23 = some (Instr.ireturn, 1, 1, 0, 0, []) := rfl
theorem c_177_0 : mm_code 177 0 = some (Instr.aload_n 0, 1, 0, 0, 0, []) := rfl
theorem c_177_1 : mm_code 177 1 = some (Instr.iconst 0, 1, 0, 0, 0, []) := rfl
theorem c_177_2 : mm_code 177 2 = some (Instr.putfield 266, 3, 1, 10, 42, [899]) := rfl
theorem c_177_5 : mm_code 177 5 = some (Instr.iconst 0, 1, 0, 0, 0, []) := rfl
theorem c_177_6 : mm_code 177 6 = some (Instr.istore_n 1, 1, 0, 0, 0, []) := rfl
theorem c_177_7 : mm_code 177 7 = some (Instr.iload_n 1, 1, 0, 0, 0, []) := rfl
theorem c_177_8 : mm_code 177 8 = some (Instr.aload_n 0, 1, 0, 0, 0, []) := rfl
theorem c_177_9 : mm_code 177 9 = some (Instr.getfield 125, 3, 0, 10, 25, [882]) := rfl
theorem c_177_12 : mm_code 177 12 = some (Instr.if_icmp .ge 164, 3, 0, 176, 0, []) := rfl
theorem c_177_15 : mm_code 177 15 = some (Instr.aload_n 0, 1, 0, 0, 0, []) := rfl
theorem c_177_16 : mm_code 177 16 = some (Instr.getfield 63, 3, 0, 10, 24, [881]) := rfl
theorem c_177_19 : mm_code 177 19 = some (Instr.iload_n 1, 1, 0, 0, 0, []) := rfl
theorem c_177_20 : mm_code 177 20 = some (Instr.iaload, 1, 0, 0, 0, []) := rfl
theorem c_177_21 : mm_code 177 21 = some (Instr.istore_n 2, 1, 0, 0, 0, []) := rfl
theorem c_177_22 : mm_code 177 22 = some (Instr.aload_n 0, 1, 0, 0, 0, []) := rfl
theorem c_177_23 : mm_code 177 23 = some (Instr.iload_n 2, 1, 0, 0, 0, []) := rfl
theorem c_177_24 : mm_code 177 24 = some (Instr.invokevirtual 175, 3, 10, 153, 1, [1095, 1097, 29, 66, 1098]) := rfl
theorem c_177_27 : mm_code 177 27 = some (Instr.istore_n 3, 1, 0, 0, 0, []) := rfl
theorem c_177_28 : mm_code 177 28 = some (Instr.aload_n 0, 1, 0, 0, 0, []) := rfl
theorem c_177_29 : mm_code 177 29 = some (Instr.iload_n 2, 1, 0, 0, 0, []) := rfl
theorem c_177_30 : mm_code 177 30 = some (Instr.invokevirtual 149, 3, 10, 154, 1, [1099, 1101, 30, 66, 1102]) := rfl
theorem c_177_33 : mm_code 177 33 = some (Instr.istore 4, 2, 0, 0, 0, []) := rfl
theorem c_177_35 : mm_code 177 35 = some (Instr.iload_n 3, 1, 0, 0, 0, []) := rfl
theorem c_177_36 : mm_code 177 36 = some (Instr.iconst 3, 1, 3, 0, 0, []) := rfl
theorem c_177_37 : mm_code 177 37 = some (Instr.if_icmp .ne 12, 3, 0, 49, 0, []) := rfl
theorem c_177_40 : mm_code 177 40 = some (Instr.aload_n 0, 1, 0, 0, 0, []) := rfl
theorem c_177_41 : mm_code 177 41 = some (Instr.bipush 20, 2, 20, 0, 0, []) := rfl
theorem c_177_43 : mm_code 177 43 = some (Instr.iconst 0, 1, 0, 0, 0, []) := rfl
theorem c_177_44 : mm_code 177 44 = some (Instr.iload_n 1, 1, 0, 0, 0, []) := rfl
theorem c_177_45 : mm_code 177 45 = some (Instr.invokevirtual 269, 3, 10, 176, 3, [1193, 1195, 42, 66, 1196]) := rfl
theorem c_177_48 : mm_code 177 48 = some (Instr.ireturn, 1, 1, 0, 0, []) := rfl
theorem c_177_49 : mm_code 177 49 = some (Instr.iload_n 3, 1, 0, 0, 0, []) := rfl
theorem c_177_50 : mm_code 177 50 = some (Instr.iconst 1, 1, 1, 0, 0, []) := rfl
theorem c_177_51 : mm_code 177 51 = some (Instr.if_icmp .ne 7, 3, 0, 58, 0, []) := rfl
theorem c_177_54 : mm_code 177 54 = some (Instr.iconst 0, 1, 0, 0, 0, []) := rfl
theorem c_177_55 : mm_code 177 55 = some (Instr.goto 24, 3, 0, 79, 0, []) := rfl
theorem c_177_58 : mm_code 177 58 = some (Instr.iload_n 3, 1, 0, 0, 0, []) := rfl
theorem c_177_59 : mm_code 177 59 = some (Instr.iconst 2, 1, 2, 0, 0, []) := rfl
theorem c_177_60 : mm_code 177 60 = some (Instr.if_icmp .ne 18, 3, 0, 78, 0, []) := rfl
theorem c_177_63 : mm_code 177 63 = some (Instr.iload 4, 2, 0, 0, 0, []) := rfl
theorem c_177_65 : mm_code 177 65 = some (Instr.ifCond .lt 13, 3, 0, 78, 0, []) := rfl
set_option maxRecDepth 100000 in theorem c_177_68 : mm_code 177 68 = some (Instr.aload_n 0, 1, 0, 0, 0, []) := rfl
set_option maxRecDepth 100000 in theorem c_177_69 : mm_code 177 69 = some (Instr.getfield 29, 3, 0, 10, 10, [867]) := rfl
set_option maxRecDepth 100000 in theorem c_177_72 : mm_code 177 72 = some (Instr.iload 4, 2, 0, 0, 0, []) := rfl
set_option maxRecDepth 100000 in theorem c_177_74 : mm_code 177 74 = some (Instr.iaload, 1, 0, 0, 0, []) := rfl
set_option maxRecDepth 100000 in theorem c_177_75 : mm_code 177 75 = some (Instr.goto 4, 3, 0, 79, 0, []) := rfl
set_option maxRecDepth 100000 in theorem c_177_78 : mm_code 177 78 = some (Instr.iconst 1, 1, 1, 0, 0, []) := rfl
set_option maxRecDepth 100000 in theorem c_177_79 : mm_code 177 79 = some (Instr.istore 5, 2, 0, 0, 0, []) := rfl
set_option maxRecDepth 100000 in theorem c_177_81 : mm_code 177 81 = some (Instr.aload_n 0, 1, 0, 0, 0, []) := rfl
set_option maxRecDepth 100000 in theorem c_177_82 : mm_code 177 82 = some (Instr.getfield 266, 3, 0, 10, 42, [899]) := rfl
set_option maxRecDepth 100000 in theorem c_177_85 : mm_code 177 85 = some (Instr.iload 5, 2, 0, 0, 0, []) := rfl
set_option maxRecDepth 100000 in theorem c_177_87 : mm_code 177 87 = some (Instr.iadd, 1, 0, 0, 0, []) := rfl
set_option maxRecDepth 100000 in theorem c_177_88 : mm_code 177 88 = some (Instr.sipush 300, 3, 300, 0, 0, []) := rfl
set_option maxRecDepth 100000 in theorem c_177_91 : mm_code 177 91 = some (Instr.if_icmp .le 12, 3, 0, 103, 0, []) := rfl
set_option maxRecDepth 100000 in theorem c_177_94 : mm_code 177 94 = some (Instr.aload_n 0, 1, 0, 0, 0, []) := rfl
set_option maxRecDepth 100000 in theorem c_177_95 : mm_code 177 95 = some (Instr.bipush 60, 2, 60, 0, 0, []) := rfl
set_option maxRecDepth 100000 in theorem c_177_97 : mm_code 177 97 = some (Instr.iconst 0, 1, 0, 0, 0, []) := rfl
set_option maxRecDepth 100000 in theorem c_177_98 : mm_code 177 98 = some (Instr.iload_n 1, 1, 0, 0, 0, []) := rfl
set_option maxRecDepth 100000 in theorem c_177_99 : mm_code 177 99 = some (Instr.invokevirtual 269, 3, 10, 176, 3, [1193, 1195, 42, 66, 1196]) := rfl
set_option maxRecDepth 100000 in theorem c_177_102 : mm_code 177 102 = some (Instr.ireturn, 1, 1, 0, 0, []) := rfl
set_option maxRecDepth 100000 in theorem c_177_103 : mm_code 177 103 = some (Instr.iconst 0, 1, 0, 0, 0, []) := rfl
set_option maxRecDepth 100000 in theorem c_177_104 : mm_code 177 104 = some (Instr.istore 6, 2, 0, 0, 0, []) := rfl
set_option maxRecDepth 100000 in theorem c_177_106 : mm_code 177 106 = some (Instr.iload 6, 2, 0, 0, 0, []) := rfl
set_option maxRecDepth 100000 in theorem c_177_108 : mm_code 177 108 = some (Instr.iload 5, 2, 0, 0, 0, []) := rfl
set_option maxRecDepth 100000 in theorem c_177_110 : mm_code 177 110 = some (Instr.if_icmp .ge 60, 3, 0, 170, 0, []) := rfl
set_option maxRecDepth 100000 in theorem c_177_113 : mm_code 177 113 = some (Instr.aload_n 0, 1, 0, 0, 0, []) := rfl
set_option maxRecDepth 100000 in theorem c_177_114 : mm_code 177 114 = some (Instr.getfield 84, 3, 0, 10, 41, [898]) := rfl
set_option maxRecDepth 100000 in theorem c_177_117 : mm_code 177 117 = some (Instr.aload_n 0, 1, 0, 0, 0, []) := rfl
set_option maxRecDepth 100000 in theorem c_177_118 : mm_code 177 118 = some (Instr.getfield 266, 3, 0, 10, 42, [899]) := rfl
set_option maxRecDepth 100000 in theorem c_177_121 : mm_code 177 121 = some (Instr.iload_n 3, 1, 0, 0, 0, []) := rfl
set_option maxRecDepth 100000 in theorem c_177_122 : mm_code 177 122 = some (Instr.ifCond .ne 7, 3, 0, 129, 0, []) := rfl
set_option maxRecDepth 100000 in theorem c_177_125 : mm_code 177 125 = some (Instr.iload_n 2, 1, 0, 0, 0, []) := rfl
set_option maxRecDepth 100000 in theorem c_177_126 : mm_code 177 126 = some (Instr.goto 27, 3, 0, 153, 0, []) := rfl
set_option maxRecDepth 100000 in theorem c_177_129 : mm_code 177 129 = some (Instr.iload 4, 2, 0, 0, 0, []) := rfl
set_option maxRecDepth 100000 in theorem c_177_131 : mm_code 177 131 = some (Instr.ifCond .lt 18, 3, 0, 149, 0, []) := rfl
set_option maxRecDepth 100000 in theorem c_177_134 : mm_code 177 134 = some (Instr.aload_n 0, 1, 0, 0, 0, []) := rfl
set_option maxRecDepth 100000 in theorem c_177_135 : mm_code 177 135 = some (Instr.getfield 26, 3, 0, 10, 9, [866]) := rfl
set_option maxRecDepth 100000 in theorem c_177_138 : mm_code 177 138 = some (Instr.iconst 4, 1, 4, 0, 0, []) := rfl
set_option maxRecDepth 100000 in theorem c_177_139 : mm_code 177 139 = some (Instr.iload 4, 2, 0, 0, 0, []) := rfl
set_option maxRecDepth 100000 in theorem c_177_141 : mm_code 177 141 = some (Instr.imul, 1, 0, 0, 0, []) := rfl
set_option maxRecDepth 100000 in theorem c_177_142 : mm_code 177 142 = some (Instr.iload 6, 2, 0, 0, 0, []) := rfl
set_option maxRecDepth 100000 in theorem c_177_144 : mm_code 177 144 = some (Instr.iadd, 1, 0, 0, 0, []) := rfl
set_option maxRecDepth 100000 in theorem c_177_145 : mm_code 177 145 = some (Instr.iaload, 1, 0, 0, 0, []) := rfl
set_option maxRecDepth 100000 in theorem c_177_146 : mm_code 177 146 = some (Instr.goto 7, 3, 0, 153, 0, []) := rfl
set_option maxRecDepth 100000 in theorem c_177_149 : mm_code 177 149 = some (Instr.iload_n 2, 1, 0, 0, 0, []) := rfl
set_option maxRecDepth 100000 in theorem c_177_150 : mm_code 177 150 = some (Instr.bipush 32, 2, 32, 0, 0, []) := rfl
set_option maxRecDepth 100000 in theorem c_177_152 : mm_code 177 152 = some (Instr.iadd, 1, 0, 0, 0, []) := rfl
set_option maxRecDepth 100000 in theorem c_177_153 : mm_code 177 153 = some (Instr.iastore, 1, 0, 0, 0, []) := rfl
set_option maxRecDepth 100000 in theorem c_177_154 : mm_code 177 154 = some (Instr.aload_n 0, 1, 0, 0, 0, []) := rfl
set_option maxRecDepth 100000 in theorem c_177_155 : mm_code 177 155 = some (Instr.dup, 1, 0, 0, 0, []) := rfl
set_option maxRecDepth 100000 in theorem c_177_156 : mm_code 177 156 = some (Instr.getfield 266, 3, 0, 10, 42, [899]) := rfl
set_option maxRecDepth 100000 in theorem c_177_159 : mm_code 177 159 = some (Instr.iconst 1, 1, 1, 0, 0, []) := rfl
set_option maxRecDepth 100000 in theorem c_177_160 : mm_code 177 160 = some (Instr.iadd, 1, 0, 0, 0, []) := rfl
set_option maxRecDepth 100000 in theorem c_177_161 : mm_code 177 161 = some (Instr.putfield 266, 3, 1, 10, 42, [899]) := rfl
set_option maxRecDepth 100000 in theorem c_177_164 : mm_code 177 164 = some (Instr.iinc 6 1, 3, 0, 0, 0, []) := rfl
set_option maxRecDepth 100000 in theorem c_177_167 : mm_code 177 167 = some (Instr.goto (-61), 3, 0, 106, 0, []) := rfl
set_option maxRecDepth 100000 in theorem c_177_170 : mm_code 177 170 = some (Instr.iinc 1 1, 3, 0, 0, 0, []) := rfl
set_option maxRecDepth 100000 in theorem c_177_173 : mm_code 177 173 = some (Instr.goto (-166), 3, 0, 7, 0, []) := rfl
set_option maxRecDepth 100000 in theorem c_177_176 : mm_code 177 176 = some (Instr.aload_n 0, 1, 0, 0, 0, []) := rfl
set_option maxRecDepth 100000 in theorem c_177_177 : mm_code 177 177 = some (Instr.aload_n 0, 1, 0, 0, 0, []) := rfl
set_option maxRecDepth 100000 in theorem c_177_178 : mm_code 177 178 = some (Instr.getfield 84, 3, 0, 10, 41, [898]) := rfl
set_option maxRecDepth 100000 in theorem c_177_181 : mm_code 177 181 = some (Instr.iconst 0, 1, 0, 0, 0, []) := rfl
set_option maxRecDepth 100000 in theorem c_177_182 : mm_code 177 182 = some (Instr.aload_n 0, 1, 0, 0, 0, []) := rfl
set_option maxRecDepth 100000 in theorem c_177_183 : mm_code 177 183 = some (Instr.getfield 266, 3, 0, 10, 42, [899]) := rfl
set_option maxRecDepth 100000 in theorem c_177_186 : mm_code 177 186 = some (Instr.invokevirtual 198, 3, 10, 157, 3, [1111, 1113, 32, 66, 1114]) := rfl
set_option maxRecDepth 100000 in theorem c_177_189 : mm_code 177 189 = some (Instr.ifCond .ne 14, 3, 0, 203, 0, []) := rfl
set_option maxRecDepth 100000 in theorem c_177_192 : mm_code 177 192 = some (Instr.aload_n 0, 1, 0, 0, 0, []) := rfl
set_option maxRecDepth 100000 in theorem c_177_193 : mm_code 177 193 = some (Instr.bipush 60, 2, 60, 0, 0, []) := rfl
set_option maxRecDepth 100000 in theorem c_177_195 : mm_code 177 195 = some (Instr.iconst 0, 1, 0, 0, 0, []) := rfl
set_option maxRecDepth 100000 in theorem c_177_196 : mm_code 177 196 = some (Instr.iconst 0, 1, 0, 0, 0, []) := rfl
set_option maxRecDepth 100000 in theorem c_177_197 : mm_code 177 197 = some (Instr.invokevirtual 269, 3, 10, 176, 3, [1193, 1195, 42, 66, 1196]) := rfl
set_option maxRecDepth 100000 in theorem c_177_200 : mm_code 177 200 = some (Instr.ifCond .eq 7, 3, 0, 207, 0, []) := rfl
set_option maxRecDepth 100000 in theorem c_177_203 : mm_code 177 203 = some (Instr.iconst 1, 1, 1, 0, 0, []) := rfl
set_option maxRecDepth 100000 in theorem c_177_204 : mm_code 177 204 = some (Instr.goto 4, 3, 0, 208, 0, []) := rfl
set_option maxRecDepth 100000 in theorem c_177_207 : mm_code 177 207 = some (Instr.iconst 0, 1, 0, 0, 0, []) := rfl
set_option maxRecDepth 100000 in theorem c_177_208 : mm_code 177 208 = some (Instr.ireturn, 1, 1, 0, 0, []) := rfl
theorem c_178_0 : mm_code 178 0 = some (Instr.aload_n 0, 1, 0, 0, 0, []) := rfl
theorem c_178_1 : mm_code 178 1 = some (Instr.iconst 0, 1, 0, 0, 0, []) := rfl
theorem c_178_2 : mm_code 178 2 = some (Instr.putfield 272, 3, 1, 10, 43, [900]) := rfl
theorem c_178_5 : mm_code 178 5 = some (Instr.aload_n 0, 1, 0, 0, 0, []) := rfl
theorem c_178_6 : mm_code 178 6 = some (Instr.getfield 90, 3, 0, 10, 45, [902]) := rfl
theorem c_178_9 : mm_code 178 9 = some (Instr.iconst 0, 1, 0, 0, 0, []) := rfl
theorem c_178_10 : mm_code 178 10 = some (Instr.iconst 0, 1, 0, 0, 0, []) := rfl
theorem c_178_11 : mm_code 178 11 = some (Instr.iastore, 1, 0, 0, 0, []) := rfl
theorem c_178_12 : mm_code 178 12 = some (Instr.aload_n 0, 1, 0, 0, 0, []) := rfl
theorem c_178_13 : mm_code 178 13 = some (Instr.getfield 93, 3, 0, 10, 46, [903]) := rfl
theorem c_178_16 : mm_code 178 16 = some (Instr.iconst 0, 1, 0, 0, 0, []) := rfl
theorem c_178_17 : mm_code 178 17 = some (Instr.iconst 0, 1, 0, 0, 0, []) := rfl
theorem c_178_18 : mm_code 178 18 = some (Instr.iastore, 1, 0, 0, 0, []) := rfl
theorem c_178_19 : mm_code 178 19 = some (Instr.iconst 0, 1, 0, 0, 0, []) := rfl
theorem c_178_20 : mm_code 178 20 = some (Instr.istore_n 1, 1, 0, 0, 0, []) := rfl
theorem c_178_21 : mm_code 178 21 = some (Instr.iconst 0, 1, 0, 0, 0, []) := rfl
theorem c_178_22 : mm_code 178 22 = some (Instr.istore_n 2, 1, 0, 0, 0, []) := rfl
theorem c_178_23 : mm_code 178 23 = some (Instr.iload_n 2, 1, 0, 0, 0, []) := rfl
theorem c_178_24 : mm_code 178 24 = some (Instr.aload_n 0, 1, 0, 0, 0, []) := rfl
theorem c_178_25 : mm_code 178 25 = some (Instr.getfield 192, 3, 0, 10, 31, [888]) := rfl
theorem c_178_28 : mm_code 178 28 = some (Instr.if_icmp .ge 81, 3, 0, 109, 0, []) := rfl
theorem c_178_31 : mm_code 178 31 = some (Instr.aload_n 0, 1, 0, 0, 0, []) := rfl
theorem c_178_32 : mm_code 178 32 = some (Instr.getfield 72, 3, 0, 10, 30, [887]) := rfl
theorem c_178_35 : mm_code 178 35 = some (Instr.iload_n 2, 1, 0, 0, 0, []) := rfl
theorem c_178_36 : mm_code 178 36 = some (Instr.iaload, 1, 0, 0, 0, []) := rfl
theorem c_178_37 : mm_code 178 37 = some (Instr.bipush 46, 2, 46, 0, 0, []) := rfl
theorem c_178_39 : mm_code 178 39 = some (Instr.if_icmp .ne 36, 3, 0, 75, 0, []) := rfl
theorem c_178_42 : mm_code 178 42 = some (Instr.aload_n 0, 1, 0, 0, 0, []) := rfl
theorem c_178_43 : mm_code 178 43 = some (Instr.dup, 1, 0, 0, 0, []) := rfl
theorem c_178_44 : mm_code 178 44 = some (Instr.getfield 272, 3, 0, 10, 43, [900]) := rfl
theorem c_178_47 : mm_code 178 47 = some (Instr.iconst 1, 1, 1, 0, 0, []) := rfl
theorem c_178_48 : mm_code 178 48 = some (Instr.iadd, 1, 0, 0, 0, []) := rfl
theorem c_178_49 : mm_code 178 49 = some (Instr.putfield 272, 3, 1, 10, 43, [900]) := rfl
theorem c_178_52 : mm_code 178 52 = some (Instr.aload_n 0, 1, 0, 0, 0, []) := rfl
theorem c_178_53 : mm_code 178 53 = some (Instr.getfield 90, 3, 0, 10, 45, [902]) := rfl
theorem c_178_56 : mm_code 178 56 = some (Instr.aload_n 0, 1, 0, 0, 0, []) := rfl
theorem c_178_57 : mm_code 178 57 = some (Instr.getfield 272, 3, 0, 10, 43, [900]) := rfl
theorem c_178_60 : mm_code 178 60 = some (Instr.iload_n 1, 1, 0, 0, 0, []) := rfl
theorem c_178_61 : mm_code 178 61 = some (Instr.iastore, 1, 0, 0, 0, []) := rfl
theorem c_178_62 : mm_code 178 62 = some (Instr.aload_n 0, 1, 0, 0, 0, []) := rfl
theorem c_178_63 : mm_code 178 63 = some (Instr.getfield 93, 3, 0, 10, 46, [903]) := rfl
set_option maxRecDepth 100000 in theorem c_178_66 : mm_code 178 66 = some (Instr.aload_n 0, 1, 0, 0, 0, []) := rfl
set_option maxRecDepth 100000 in theorem c_178_67 : mm_code 178 67 = some (Instr.getfield 272, 3, 0, 10, 43, [900]) := rfl
set_option maxRecDepth 100000 in theorem c_178_70 : mm_code 178 70 = some (Instr.iconst 0, 1, 0, 0, 0, []) := rfl
set_option maxRecDepth 100000 in theorem c_178_71 : mm_code 178 71 = some (Instr.iastore, 1, 0, 0, 0, []) := rfl
set_option maxRecDepth 100000 in theorem c_178_72 : mm_code 178 72 = some (Instr.goto 31, 3, 0, 103, 0, []) := rfl
set_option maxRecDepth 100000 in theorem c_178_75 : mm_code 178 75 = some (Instr.aload_n 0, 1, 0, 0, 0, []) := rfl
set_option maxRecDepth 100000 in theorem c_178_76 : mm_code 178 76 = some (Instr.getfield 87, 3, 0, 10, 44, [901]) := rfl
set_option maxRecDepth 100000 in theorem c_178_79 : mm_code 178 79 = some (Instr.iload_n 1, 1, 0, 0, 0, []) := rfl
set_option maxRecDepth 100000 in theorem c_178_80 : mm_code 178 80 = some (Instr.aload_n 0, 1, 0, 0, 0, []) := rfl
set_option maxRecDepth 100000 in theorem c_178_81 : mm_code 178 81 = some (Instr.getfield 72, 3, 0, 10, 30, [887]) := rfl
set_option maxRecDepth 100000 in theorem c_178_84 : mm_code 178 84 = some (Instr.iload_n 2, 1, 0, 0, 0, []) := rfl
set_option maxRecDepth 100000 in theorem c_178_85 : mm_code 178 85 = some (Instr.iaload, 1, 0, 0, 0, []) := rfl
set_option maxRecDepth 100000 in theorem c_178_86 : mm_code 178 86 = some (Instr.iastore, 1, 0, 0, 0, []) := rfl
set_option maxRecDepth 100000 in theorem c_178_87 : mm_code 178 87 = some (Instr.aload_n 0, 1, 0, 0, 0, []) := rfl
set_option maxRecDepth 100000 in theorem c_178_88 : mm_code 178 88 = some (Instr.getfield 93, 3, 0, 10, 46, [903]) := rfl
set_option maxRecDepth 100000 in theorem c_178_91 : mm_code 178 91 = some (Instr.aload_n 0, 1, 0, 0, 0, []) := rfl
set_option maxRecDepth 100000 in theorem c_178_92 : mm_code 178 92 = some (Instr.getfield 272, 3, 0, 10, 43, [900]) := rfl
set_option maxRecDepth 100000 in theorem c_178_95 : mm_code 178 95 = some (Instr.dup2, 1, 0, 0, 0, []) := rfl
set_option maxRecDepth 100000 in theorem c_178_96 : mm_code 178 96 = some (Instr.iaload, 1, 0, 0, 0, []) := rfl
set_option maxRecDepth 100000 in theorem c_178_97 : mm_code 178 97 = some (Instr.iconst 1, 1, 1, 0, 0, []) := rfl
set_option maxRecDepth 100000 in theorem c_178_98 : mm_code 178 98 = some (Instr.iadd, 1, 0, 0, 0, []) := rfl
set_option maxRecDepth 100000 in theorem c_178_99 : mm_code 178 99 = some (Instr.iastore, 1, 0, 0, 0, []) := rfl
set_option maxRecDepth 100000 in theorem c_178_100 : mm_code 178 100 = some (Instr.iinc 1 1, 3, 0, 0, 0, []) := rfl
set_option maxRecDepth 100000 in theorem c_178_103 : mm_code 178 103 = some (Instr.iinc 2 1, 3, 0, 0, 0, []) := rfl
set_option maxRecDepth 100000 in theorem c_178_106 : mm_code 178 106 = some (Instr.goto (-83), 3, 0, 23, 0, []) := rfl
set_option maxRecDepth 100000 in theorem c_178_109 : mm_code 178 109 = some (Instr.aload_n 0, 1, 0, 0, 0, []) := rfl
set_option maxRecDepth 100000 in theorem c_178_110 : mm_code 178 110 = some (Instr.dup, 1, 0, 0, 0, []) := rfl
set_option maxRecDepth 100000 in theorem c_178_111 : mm_code 178 111 = some (Instr.getfield 272, 3, 0, 10, 43, [900]) := rfl
set_option maxRecDepth 100000 in theorem c_178_114 : mm_code 178 114 = some (Instr.iconst 1, 1, 1, 0, 0, []) := rfl
set_option maxRecDepth 100000 in theorem c_178_115 : mm_code 178 115 = some (Instr.iadd, 1, 0, 0, 0, []) := rfl
set_option maxRecDepth 100000 in theorem c_178_116 : mm_code 178 116 = some (Instr.putfield 272, 3, 1, 10, 43, [900]) := rfl
set_option maxRecDepth 100000 in theorem c_178_119 : mm_code 178 119 = some (Instr.return_, 1, 0, 0, 0, []) := rfl
theorem c_179_0 : mm_code 179 0 = some (Instr.aload_n 0, 1, 0, 0, 0, []) := rfl
theorem c_179_1 : mm_code 179 1 = some (Instr.getfield 90, 3, 0, 10, 45, [902]) := rfl
theorem c_179_4 : mm_code 179 4 = some (Instr.iload_n 1, 1, 0, 0, 0, []) := rfl
theorem c_179_5 : mm_code 179 5 = some (Instr.iaload, 1, 0, 0, 0, []) := rfl
theorem c_179_6 : mm_code 179 6 = some (Instr.istore_n 2, 1, 0, 0, 0, []) := rfl
theorem c_179_7 : mm_code 179 7 = some (Instr.aload_n 0, 1, 0, 0, 0, []) := rfl
theorem c_179_8 : mm_code 179 8 = some (Instr.getfield 93, 3, 0, 10, 46, [903]) := rfl
theorem c_179_11 : mm_code 179 11 = some (Instr.iload_n 1, 1, 0, 0, 0, []) := rfl
theorem c_179_12 : mm_code 179 12 = some (Instr.iaload, 1, 0, 0, 0, []) := rfl
theorem c_179_13 : mm_code 179 13 = some (Instr.ifCond .ne 5, 3, 0, 18, 0, []) := rfl
theorem c_179_16 : mm_code 179 16 = some (Instr.iconst 1, 1, 1, 0, 0, []) := rfl
theorem c_179_17 : mm_code 179 17 = some (Instr.ireturn, 1, 1, 0, 0, []) := rfl
theorem c_179_18 : mm_code 179 18 = some (Instr.aload_n 0, 1, 0, 0, 0, []) := rfl
theorem c_179_19 : mm_code 179 19 = some (Instr.getfield 93, 3, 0, 10, 46, [903]) := rfl
theorem c_179_22 : mm_code 179 22 = some (Instr.iload_n 1, 1, 0, 0, 0, []) := rfl
theorem c_179_23 : mm_code 179 23 = some (Instr.iaload, 1, 0, 0, 0, []) := rfl
theorem c_179_24 : mm_code 179 24 = some (Instr.iconst 4, 1, 4, 0, 0, []) := rfl
theorem c_179_25 : mm_code 179 25 = some (Instr.if_icmp .lt 57, 3, 0, 82, 0, []) := rfl
theorem c_179_28 : mm_code 179 28 = some (Instr.aload_n 0, 1, 0, 0, 0, []) := rfl
theorem c_179_29 : mm_code 179 29 = some (Instr.getfield 87, 3, 0, 10, 44, [901]) := rfl
theorem c_179_32 : mm_code 179 32 = some (Instr.iload_n 2, 1, 0, 0, 0, []) := rfl
theorem c_179_33 : mm_code 179 33 = some (Instr.iaload, 1, 0, 0, 0, []) := rfl
theorem c_179_34 : mm_code 179 34 = some (Instr.bipush 120, 2, 120, 0, 0, []) := rfl
theorem c_179_36 : mm_code 179 36 = some (Instr.if_icmp .ne 46, 3, 0, 82, 0, []) := rfl
theorem c_179_39 : mm_code 179 39 = some (Instr.aload_n 0, 1, 0, 0, 0, []) := rfl
theorem c_179_40 : mm_code 179 40 = some (Instr.getfield 87, 3, 0, 10, 44, [901]) := rfl
theorem c_179_43 : mm_code 179 43 = some (Instr.iload_n 2, 1, 0, 0, 0, []) := rfl
theorem c_179_44 : mm_code 179 44 = some (Instr.iconst 1, 1, 1, 0, 0, []) := rfl
theorem c_179_45 : mm_code 179 45 = some (Instr.iadd, 1, 0, 0, 0, []) := rfl
theorem c_179_46 : mm_code 179 46 = some (Instr.iaload, 1, 0, 0, 0, []) := rfl
theorem c_179_47 : mm_code 179 47 = some (Instr.bipush 110, 2, 110, 0, 0, []) := rfl
theorem c_179_49 : mm_code 179 49 = some (Instr.if_icmp .ne 33, 3, 0, 82, 0, []) := rfl
theorem c_179_52 : mm_code 179 52 = some (Instr.aload_n 0, 1, 0, 0, 0, []) := rfl
theorem c_179_53 : mm_code 179 53 = some (Instr.getfield 87, 3, 0, 10, 44, [901]) := rfl
theorem c_179_56 : mm_code 179 56 = some (Instr.iload_n 2, 1, 0, 0, 0, []) := rfl
theorem c_179_57 : mm_code 179 57 = some (Instr.iconst 2, 1, 2, 0, 0, []) := rfl
theorem c_179_58 : mm_code 179 58 = some (Instr.iadd, 1, 0, 0, 0, []) := rfl
theorem c_179_59 : mm_code 179 59 = some (Instr.iaload, 1, 0, 0, 0, []) := rfl
theorem c_179_60 : mm_code 179 60 = some (Instr.bipush 45, 2, 45, 0, 0, []) := rfl
theorem c_179_62 : mm_code 179 62 = some (Instr.if_icmp .ne 20, 3, 0, 82, 0, []) := rfl
theorem c_179_65 : mm_code 179 65 = some (Instr.aload_n 0, 1, 0, 0, 0, []) := rfl
set_option maxRecDepth 100000 in theorem c_179_66 : mm_code 179 66 = some (Instr.getfield 87, 3, 0, 10, 44, [901]) := rfl
set_option maxRecDepth 100000 in theorem c_179_69 : mm_code 179 69 = some (Instr.iload_n 2, 1, 0, 0, 0, []) := rfl
set_option maxRecDepth 100000 in theorem c_179_70 : mm_code 179 70 = some (Instr.iconst 3, 1, 3, 0, 0, []) := rfl
set_option maxRecDepth 100000 in theorem c_179_71 : mm_code 179 71 = some (Instr.iadd, 1, 0, 0, 0, []) := rfl
set_option maxRecDepth 100000 in theorem c_179_72 : mm_code 179 72 = some (Instr.iaload, 1, 0, 0, 0, []) := rfl
set_option maxRecDepth 100000 in theorem c_179_73 : mm_code 179 73 = some (Instr.bipush 45, 2, 45, 0, 0, []) := rfl
set_option maxRecDepth 100000 in theorem c_179_75 : mm_code 179 75 = some (Instr.if_icmp .ne 7, 3, 0, 82, 0, []) := rfl
set_option maxRecDepth 100000 in theorem c_179_78 : mm_code 179 78 = some (Instr.iconst 1, 1, 1, 0, 0, []) := rfl
set_option maxRecDepth 100000 in theorem c_179_79 : mm_code 179 79 = some (Instr.goto 4, 3, 0, 83, 0, []) := rfl
set_option maxRecDepth 100000 in theorem c_179_82 : mm_code 179 82 = some (Instr.iconst 0, 1, 0, 0, 0, []) := rfl
set_option maxRecDepth 100000 in theorem c_179_83 : mm_code 179 83 = some (Instr.istore_n 3, 1, 0, 0, 0, []) := rfl
set_option maxRecDepth 100000 in theorem c_179_84 : mm_code 179 84 = some (Instr.iload_n 3, 1, 0, 0, 0, []) := rfl
set_option maxRecDepth 100000 in theorem c_179_85 : mm_code 179 85 = some (Instr.ifCond .eq 13, 3, 0, 98, 0, []) := rfl
set_option maxRecDepth 100000 in theorem c_179_88 : mm_code 179 88 = some (Instr.aload_n 0, 1, 0, 0, 0, []) := rfl
set_option maxRecDepth 100000 in theorem c_179_89 : mm_code 179 89 = some (Instr.iload_n 1, 1, 0, 0, 0, []) := rfl
set_option maxRecDepth 100000 in theorem c_179_90 : mm_code 179 90 = some (Instr.invokevirtual 275, 3, 10, 180, 1, [1209, 1211, 46, 66, 1212]) := rfl
set_option maxRecDepth 100000 in theorem c_179_93 : mm_code 179 93 = some (Instr.ifCond .ne 5, 3, 0, 98, 0, []) := rfl
set_option maxRecDepth 100000 in theorem c_179_96 : mm_code 179 96 = some (Instr.iconst 0, 1, 0, 0, 0, []) := rfl
set_option maxRecDepth 100000 in theorem c_179_97 : mm_code 179 97 = some (Instr.ireturn, 1, 1, 0, 0, []) := rfl
set_option maxRecDepth 100000 in theorem c_179_98 : mm_code 179 98 = some (Instr.aload_n 0, 1, 0, 0, 0, []) := rfl
set_option maxRecDepth 100000 in theorem c_179_99 : mm_code 179 99 = some (Instr.getfield 93, 3, 0, 10, 46, [903]) := rfl
set_option maxRecDepth 100000 in theorem c_179_102 : mm_code 179 102 = some (Instr.iload_n 1, 1, 0, 0, 0, []) := rfl
set_option maxRecDepth 100000 in theorem c_179_103 : mm_code 179 103 = some (Instr.iaload, 1, 0, 0, 0, []) := rfl
set_option maxRecDepth 100000 in theorem c_179_104 : mm_code 179 104 = some (Instr.istore 4, 2, 0, 0, 0, []) := rfl
set_option maxRecDepth 100000 in theorem c_179_106 : mm_code 179 106 = some (Instr.iload 4, 2, 0, 0, 0, []) := rfl
set_option maxRecDepth 100000 in theorem c_179_108 : mm_code 179 108 = some (Instr.iconst 4, 1, 4, 0, 0, []) := rfl
set_option maxRecDepth 100000 in theorem c_179_109 : mm_code 179 109 = some (Instr.if_icmp .lt 38, 3, 0, 147, 0, []) := rfl
set_option maxRecDepth 100000 in theorem c_179_112 : mm_code 179 112 = some (Instr.aload_n 0, 1, 0, 0, 0, []) := rfl
set_option maxRecDepth 100000 in theorem c_179_113 : mm_code 179 113 = some (Instr.getfield 87, 3, 0, 10, 44, [901]) := rfl
set_option maxRecDepth 100000 in theorem c_179_116 : mm_code 179 116 = some (Instr.iload_n 2, 1, 0, 0, 0, []) := rfl
set_option maxRecDepth 100000 in theorem c_179_117 : mm_code 179 117 = some (Instr.iconst 2, 1, 2, 0, 0, []) := rfl
set_option maxRecDepth 100000 in theorem c_179_118 : mm_code 179 118 = some (Instr.iadd, 1, 0, 0, 0, []) := rfl
set_option maxRecDepth 100000 in theorem c_179_119 : mm_code 179 119 = some (Instr.iaload, 1, 0, 0, 0, []) := rfl
set_option maxRecDepth 100000 in theorem c_179_120 : mm_code 179 120 = some (Instr.bipush 45, 2, 45, 0, 0, []) := rfl
set_option maxRecDepth 100000 in theorem c_179_122 : mm_code 179 122 = some (Instr.if_icmp .ne 25, 3, 0, 147, 0, []) := rfl
set_option maxRecDepth 100000 in theorem c_179_125 : mm_code 179 125 = some (Instr.aload_n 0, 1, 0, 0, 0, []) := rfl
set_option maxRecDepth 100000 in theorem c_179_126 : mm_code 179 126 = some (Instr.getfield 87, 3, 0, 10, 44, [901]) := rfl
set_option maxRecDepth 100000 in theorem c_179_129 : mm_code 179 129 = some (Instr.iload_n 2, 1, 0, 0, 0, []) := rfl
set_option maxRecDepth 100000 in theorem c_179_130 : mm_code 179 130 = some (Instr.iconst 3, 1, 3, 0, 0, []) := rfl
set_option maxRecDepth 100000 in theorem c_179_131 : mm_code 179 131 = some (Instr.iadd, 1, 0, 0, 0, []) := rfl
set_option maxRecDepth 100000 in theorem c_179_132 : mm_code 179 132 = some (Instr.iaload, 1, 0, 0, 0, []) := rfl
set_option maxRecDepth 100000 in theorem c_179_133 : mm_code 179 133 = some (Instr.bipush 45, 2, 45, 0, 0, []) := rfl
set_option maxRecDepth 100000 in theorem c_179_135 : mm_code 179 135 = some (Instr.if_icmp .ne 12, 3, 0, 147, 0, []) := rfl
set_option maxRecDepth 100000 in theorem c_179_138 : mm_code 179 138 = some (Instr.aload_n 0, 1, 0, 0, 0, []) := rfl
set_option maxRecDepth 100000 in theorem c_179_139 : mm_code 179 139 = some (Instr.bipush 41, 2, 41, 0, 0, []) := rfl
set_option maxRecDepth 100000 in theorem c_179_141 : mm_code 179 141 = some (Instr.iload_n 1, 1, 0, 0, 0, []) := rfl
set_option maxRecDepth 100000 in theorem c_179_142 : mm_code 179 142 = some (Instr.iconst 2, 1, 2, 0, 0, []) := rfl
set_option maxRecDepth 100000 in theorem c_179_143 : mm_code 179 143 = some (Instr.invokevirtual 269, 3, 10, 176, 3, [1193, 1195, 42, 66, 1196]) := rfl
set_option maxRecDepth 100000 in theorem c_179_146 : mm_code 179 146 = some (Instr.ireturn, 1, 1, 0, 0, []) := rfl
set_option maxRecDepth 100000 in theorem c_179_147 : mm_code 179 147 = some (Instr.aload_n 0, 1, 0, 0, 0, []) := rfl
set_option maxRecDepth 100000 in theorem c_179_148 : mm_code 179 148 = some (Instr.getfield 87, 3, 0, 10, 44, [901]) := rfl
set_option maxRecDepth 100000 in theorem c_179_151 : mm_code 179 151 = some (Instr.iload_n 2, 1, 0, 0, 0, []) := rfl
set_option maxRecDepth 100000 in theorem c_179_152 : mm_code 179 152 = some (Instr.iaload, 1, 0, 0, 0, []) := rfl
set_option maxRecDepth 100000 in theorem c_179_153 : mm_code 179 153 = some (Instr.bipush 45, 2, 45, 0, 0, []) := rfl
set_option maxRecDepth 100000 in theorem c_179_155 : mm_code 179 155 = some (Instr.if_icmp .ne 12, 3, 0, 167, 0, []) := rfl
set_option maxRecDepth 100000 in theorem c_179_158 : mm_code 179 158 = some (Instr.aload_n 0, 1, 0, 0, 0, []) := rfl
set_option maxRecDepth 100000 in theorem c_179_159 : mm_code 179 159 = some (Instr.bipush 42, 2, 42, 0, 0, []) := rfl
set_option maxRecDepth 100000 in theorem c_179_161 : mm_code 179 161 = some (Instr.iload_n 1, 1, 0, 0, 0, []) := rfl
set_option maxRecDepth 100000 in theorem c_179_162 : mm_code 179 162 = some (Instr.iconst 0, 1, 0, 0, 0, []) := rfl
set_option maxRecDepth 100000 in theorem c_179_163 : mm_code 179 163 = some (Instr.invokevirtual 269, 3, 10, 176, 3, [1193, 1195, 42, 66, 1196]) := rfl
set_option maxRecDepth 100000 in theorem c_179_166 : mm_code 179 166 = some (Instr.ireturn, 1, 1, 0, 0, []) := rfl
set_option maxRecDepth 100000 in theorem c_179_167 : mm_code 179 167 = some (Instr.aload_n 0, 1, 0, 0, 0, []) := rfl
set_option maxRecDepth 100000 in theorem c_179_168 : mm_code 179 168 = some (Instr.getfield 87, 3, 0, 10, 44, [901]) := rfl
set_option maxRecDepth 100000 in theorem c_179_171 : mm_code 179 171 = some (Instr.iload_n 2, 1, 0, 0, 0, []) := rfl
set_option maxRecDepth 100000 in theorem c_179_172 : mm_code 179 172 = some (Instr.iload 4, 2, 0, 0, 0, []) := rfl
set_option maxRecDepth 100000 in theorem c_179_174 : mm_code 179 174 = some (Instr.iadd, 1, 0, 0, 0, []) := rfl
set_option maxRecDepth 100000 in theorem c_179_175 : mm_code 179 175 = some (Instr.iconst 1, 1, 1, 0, 0, []) := rfl
set_option maxRecDepth 100000 in theorem c_179_176 : mm_code 179 176 = some (Instr.isub, 1, 0, 0, 0, []) := rfl
set_option maxRecDepth 100000 in theorem c_179_177 : mm_code 179 177 = some (Instr.iaload, 1, 0, 0, 0, []) := rfl
set_option maxRecDepth 100000 in theorem c_179_178 : mm_code 179 178 = some (Instr.bipush 45, 2, 45, 0, 0, []) := rfl
set_option maxRecDepth 100000 in theorem c_179_180 : mm_code 179 180 = some (Instr.if_icmp .ne 15, 3, 0, 195, 0, []) := rfl
set_option maxRecDepth 100000 in theorem c_179_183 : mm_code 179 183 = some (Instr.aload_n 0, 1, 0, 0, 0, []) := rfl
set_option maxRecDepth 100000 in theorem c_179_184 : mm_code 179 184 = some (Instr.bipush 42, 2, 42, 0, 0, []) := rfl
set_option maxRecDepth 100000 in theorem c_179_186 : mm_code 179 186 = some (Instr.iload_n 1, 1, 0, 0, 0, []) := rfl
set_option maxRecDepth 100000 in theorem c_179_187 : mm_code 179 187 = some (Instr.iload 4, 2, 0, 0, 0, []) := rfl
set_option maxRecDepth 100000 in theorem c_179_189 : mm_code 179 189 = some (Instr.iconst 1, 1, 1, 0, 0, []) := rfl
set_option maxRecDepth 100000 in theorem c_179_190 : mm_code 179 190 = some (Instr.isub, 1, 0, 0, 0, []) := rfl
set_option maxRecDepth 100000 in theorem c_179_191 : mm_code 179 191 = some (Instr.invokevirtual 269, 3, 10, 176, 3, [1193, 1195, 42, 66, 1196]) := rfl
set_option maxRecDepth 100000 in theorem c_179_194 : mm_code 179 194 = some (Instr.ireturn, 1, 1, 0, 0, []) := rfl
set_option maxRecDepth 100000 in theorem c_179_195 : mm_code 179 195 = some (Instr.aload_n 0, 1, 0, 0, 0, []) := rfl
set_option maxRecDepth 100000 in theorem c_179_196 : mm_code 179 196 = some (Instr.iconst 0, 1, 0, 0, 0, []) := rfl
set_option maxRecDepth 100000 in theorem c_179_197 : mm_code 179 197 = some (Instr.aload_n 0, 1, 0, 0, 0, []) := rfl
set_option maxRecDepth 100000 in theorem c_179_198 : mm_code 179 198 = some (Instr.getfield 87, 3, 0, 10, 44, [901]) := rfl
set_option maxRecDepth 100000 in theorem c_179_201 : mm_code 179 201 = some (Instr.iload_n 2, 1, 0, 0, 0, []) := rfl
set_option maxRecDepth 100000 in theorem c_179_202 : mm_code 179 202 = some (Instr.iaload, 1, 0, 0, 0, []) := rfl
set_option maxRecDepth 100000 in theorem c_179_203 : mm_code 179 203 = some (Instr.invokevirtual 178, 3, 10, 155, 2, [1103, 1105, 31, 66, 1106]) := rfl
set_option maxRecDepth 100000 in theorem c_179_206 : mm_code 179 206 = some (Instr.iconst 1, 1, 1, 0, 0, []) := rfl
set_option maxRecDepth 100000 in theorem c_179_207 : mm_code 179 207 = some (Instr.if_icmp .ne 12, 3, 0, 219, 0, []) := rfl
set_option maxRecDepth 100000 in theorem c_179_210 : mm_code 179 210 = some (Instr.aload_n 0, 1, 0, 0, 0, []) := rfl
set_option maxRecDepth 100000 in theorem c_179_211 : mm_code 179 211 = some (Instr.bipush 43, 2, 43, 0, 0, []) := rfl
set_option maxRecDepth 100000 in theorem c_179_213 : mm_code 179 213 = some (Instr.iload_n 1, 1, 0, 0, 0, []) := rfl
set_option maxRecDepth 100000 in theorem c_179_214 : mm_code 179 214 = some (Instr.iconst 0, 1, 0, 0, 0, []) := rfl
set_option maxRecDepth 100000 in theorem c_179_215 : mm_code 179 215 = some (Instr.invokevirtual 269, 3, 10, 176, 3, [1193, 1195, 42, 66, 1196]) := rfl
set_option maxRecDepth 100000 in theorem c_179_218 : mm_code 179 218 = some (Instr.ireturn, 1, 1, 0, 0, []) := rfl
set_option maxRecDepth 100000 in theorem c_179_219 : mm_code 179 219 = some (Instr.iconst 0, 1, 0, 0, 0, []) := rfl
set_option maxRecDepth 100000 in theorem c_179_220 : mm_code 179 220 = some (Instr.istore 5, 2, 0, 0, 0, []) := rfl
set_option maxRecDepth 100000 in theorem c_179_222 : mm_code 179 222 = some (Instr.iload 5, 2, 0, 0, 0, []) := rfl
set_option maxRecDepth 100000 in theorem c_179_224 : mm_code 179 224 = some (Instr.iload 4, 2, 0, 0, 0, []) := rfl
set_option maxRecDepth 100000 in theorem c_179_226 : mm_code 179 226 = some (Instr.if_icmp .ge 49, 3, 0, 275, 0, []) := rfl
set_option maxRecDepth 100000 in theorem c_179_229 : mm_code 179 229 = some (Instr.aload_n 0, 1, 0, 0, 0, []) := rfl
set_option maxRecDepth 100000 in theorem c_179_230 : mm_code 179 230 = some (Instr.aload_n 0, 1, 0, 0, 0, []) := rfl
set_option maxRecDepth 100000 in theorem c_179_231 : mm_code 179 231 = some (Instr.getfield 87, 3, 0, 10, 44, [901]) := rfl
set_option maxRecDepth 100000 in theorem c_179_234 : mm_code 179 234 = some (Instr.iload_n 2, 1, 0, 0, 0, []) := rfl
set_option maxRecDepth 100000 in theorem c_179_235 : mm_code 179 235 = some (Instr.iload 5, 2, 0, 0, 0, []) := rfl
set_option maxRecDepth 100000 in theorem c_179_237 : mm_code 179 237 = some (Instr.iadd, 1, 0, 0, 0, []) := rfl
set_option maxRecDepth 100000 in theorem c_179_238 : mm_code 179 238 = some (Instr.iaload, 1, 0, 0, 0, []) := rfl
set_option maxRecDepth 100000 in theorem c_179_239 : mm_code 179 239 = some (Instr.invokevirtual 175, 3, 10, 153, 1, [1095, 1097, 29, 66, 1098]) := rfl
set_option maxRecDepth 100000 in theorem c_179_242 : mm_code 179 242 = some (Instr.ifCond .ne 17, 3, 0, 259, 0, []) := rfl
set_option maxRecDepth 100000 in theorem c_179_245 : mm_code 179 245 = some (Instr.aload_n 0, 1, 0, 0, 0, []) := rfl
set_option maxRecDepth 100000 in theorem c_179_246 : mm_code 179 246 = some (Instr.getfield 87, 3, 0, 10, 44, [901]) := rfl
set_option maxRecDepth 100000 in theorem c_179_249 : mm_code 179 249 = some (Instr.iload_n 2, 1, 0, 0, 0, []) := rfl
set_option maxRecDepth 100000 in theorem c_179_250 : mm_code 179 250 = some (Instr.iload 5, 2, 0, 0, 0, []) := rfl
set_option maxRecDepth 100000 in theorem c_179_252 : mm_code 179 252 = some (Instr.iadd, 1, 0, 0, 0, []) := rfl
set_option maxRecDepth 100000 in theorem c_179_253 : mm_code 179 253 = some (Instr.iaload, 1, 0, 0, 0, []) := rfl
set_option maxRecDepth 100000 in theorem c_179_254 : mm_code 179 254 = some (Instr.bipush 46, 2, 46, 0, 0, []) := rfl
set_option maxRecDepth 100000 in theorem c_179_256 : mm_code 179 256 = some (Instr.if_icmp .ne 13, 3, 0, 269, 0, []) := rfl
set_option maxRecDepth 100000 in theorem c_179_259 : mm_code 179 259 = some (Instr.aload_n 0, 1, 0, 0, 0, []) := rfl
set_option maxRecDepth 100000 in theorem c_179_260 : mm_code 179 260 = some (Instr.bipush 44, 2, 44, 0, 0, []) := rfl
set_option maxRecDepth 100000 in theorem c_179_262 : mm_code 179 262 = some (Instr.iload_n 1, 1, 0, 0, 0, []) := rfl
set_option maxRecDepth 100000 in theorem c_179_263 : mm_code 179 263 = some (Instr.iload 5, 2, 0, 0, 0, []) := rfl
set_option maxRecDepth 100000 in theorem c_179_265 : mm_code 179 265 = some (Instr.invokevirtual 269, 3, 10, 176, 3, [1193, 1195, 42, 66, 1196]) := rfl
set_option maxRecDepth 100000 in theorem c_179_268 : mm_code 179 268 = some (Instr.ireturn, 1, 1, 0, 0, []) := rfl
set_option maxRecDepth 100000 in theorem c_179_269 : mm_code 179 269 = some (Instr.iinc 5 1, 3, 0, 0, 0, []) := rfl
set_option maxRecDepth 100000 in theorem c_179_272 : mm_code 179 272 = some (Instr.goto (-50), 3, 0, 222, 0, []) := rfl
set_option maxRecDepth 100000 in theorem c_179_275 : mm_code 179 275 = some (Instr.iconst 0, 1, 0, 0, 0, []) := rfl
set_option maxRecDepth 100000 in theorem c_179_276 : mm_code 179 276 = some (Instr.istore 5, 2, 0, 0, 0, []) := rfl
set_option maxRecDepth 100000 in theorem c_179_278 : mm_code 179 278 = some (Instr.iload 5, 2, 0, 0, 0, []) := rfl
set_option maxRecDepth 100000 in theorem c_179_280 : mm_code 179 280 = some (Instr.iload 4, 2, 0, 0, 0, []) := rfl
set_option maxRecDepth 100000 in theorem c_179_282 : mm_code 179 282 = some (Instr.if_icmp .ge 52, 3, 0, 334, 0, []) := rfl
set_option maxRecDepth 100000 in theorem c_179_285 : mm_code 179 285 = some (Instr.aload_n 0, 1, 0, 0, 0, []) := rfl
set_option maxRecDepth 100000 in theorem c_179_286 : mm_code 179 286 = some (Instr.getfield 87, 3, 0, 10, 44, [901]) := rfl
set_option maxRecDepth 100000 in theorem c_179_289 : mm_code 179 289 = some (Instr.iload_n 2, 1, 0, 0, 0, []) := rfl
set_option maxRecDepth 100000 in theorem c_179_290 : mm_code 179 290 = some (Instr.iload 5, 2, 0, 0, 0, []) := rfl
set_option maxRecDepth 100000 in theorem c_179_292 : mm_code 179 292 = some (Instr.iadd, 1, 0, 0, 0, []) := rfl
set_option maxRecDepth 100000 in theorem c_179_293 : mm_code 179 293 = some (Instr.iaload, 1, 0, 0, 0, []) := rfl
set_option maxRecDepth 100000 in theorem c_179_294 : mm_code 179 294 = some (Instr.sipush 8204, 3, 8204, 0, 0, []) := rfl
set_option maxRecDepth 100000 in theorem c_179_297 : mm_code 179 297 = some (Instr.sipush 8205, 3, 8205, 0, 0, []) := rfl
set_option maxRecDepth 100000 in theorem c_179_300 : mm_code 179 300 = some (Instr.invokestatic 116, 3, 0, 135, 3, [1022, 1023, 66, 1024]) := rfl
set_option maxRecDepth 100000 in theorem c_179_303 : mm_code 179 303 = some (Instr.ifCond .eq 25, 3, 0, 328, 0, []) := rfl
set_option maxRecDepth 100000 in theorem c_179_306 : mm_code 179 306 = some (Instr.aload_n 0, 1, 0, 0, 0, []) := rfl
set_option maxRecDepth 100000 in theorem c_179_307 : mm_code 179 307 = some (Instr.iload_n 2, 1, 0, 0, 0, []) := rfl
set_option maxRecDepth 100000 in theorem c_179_308 : mm_code 179 308 = some (Instr.iload 4, 2, 0, 0, 0, []) := rfl
set_option maxRecDepth 100000 in theorem c_179_310 : mm_code 179 310 = some (Instr.iload 5, 2, 0, 0, 0, []) := rfl
set_option maxRecDepth 100000 in theorem c_179_312 : mm_code 179 312 = some (Instr.invokevirtual 278, 3, 10, 181, 3, [1213, 1215, 47, 66, 1216]) := rfl
set_option maxRecDepth 100000 in theorem c_179_315 : mm_code 179 315 = some (Instr.ifCond .ne 13, 3, 0, 328, 0, []) := rfl
set_option maxRecDepth 100000 in theorem c_179_318 : mm_code 179 318 = some (Instr.aload_n 0, 1, 0, 0, 0, []) := rfl
set_option maxRecDepth 100000 in theorem c_179_319 : mm_code 179 319 = some (Instr.bipush 45, 2, 45, 0, 0, []) := rfl
set_option maxRecDepth 100000 in theorem c_179_321 : mm_code 179 321 = some (Instr.iload_n 1, 1, 0, 0, 0, []) := rfl
set_option maxRecDepth 100000 in theorem c_179_322 : mm_code 179 322 = some (Instr.iload 5, 2, 0, 0, 0, []) := rfl
set_option maxRecDepth 100000 in theorem c_179_324 : mm_code 179 324 = some (Instr.invokevirtual 269, 3, 10, 176, 3, [1193, 1195, 42, 66, 1196]) := rfl
set_option maxRecDepth 100000 in theorem c_179_327 : mm_code 179 327 = some (Instr.ireturn, 1, 1, 0, 0, []) := rfl
set_option maxRecDepth 100000 in theorem c_179_328 : mm_code 179 328 = some (Instr.iinc 5 1, 3, 0, 0, 0, []) := rfl
set_option maxRecDepth 100000 in theorem c_179_331 : mm_code 179 331 = some (Instr.goto (-53), 3, 0, 278, 0, []) := rfl
set_option maxRecDepth 100000 in theorem c_179_334 : mm_code 179 334 = some (Instr.iconst 1, 1, 1, 0, 0, []) := rfl
set_option maxRecDepth 100000 in theorem c_179_335 : mm_code 179 335 = some (Instr.ireturn, 1, 1, 0, 0, []) := rfl
theorem c_180_0 : mm_code 180 0 = some (Instr.aload_n 0, 1, 0, 0, 0, []) := rfl
theorem c_180_1 : mm_code 180 1 = some (Instr.getfield 90, 3, 0, 10, 45, [902]) := rfl
theorem c_180_4 : mm_code 180 4 = some (Instr.iload_n 1, 1, 0, 0, 0, []) := rfl
theorem c_180_5 : mm_code 180 5 = some (Instr.iaload, 1, 0, 0, 0, []) := rfl
theorem c_180_6 : mm_code 180 6 = some (Instr.istore_n 2, 1, 0, 0, 0, []) := rfl
theorem c_180_7 : mm_code 180 7 = some (Instr.aload_n 0, 1, 0, 0, 0, []) := rfl
theorem c_180_8 : mm_code 180 8 = some (Instr.aload_n 0, 1, 0, 0, 0, []) := rfl
theorem c_180_9 : mm_code 180 9 = some (Instr.getfield 87, 3, 0, 10, 44, [901]) := rfl
theorem c_180_12 : mm_code 180 12 = some (Instr.iload_n 2, 1, 0, 0, 0, []) := rfl
theorem c_180_13 : mm_code 180 13 = some (Instr.iconst 4, 1, 4, 0, 0, []) := rfl
theorem c_180_14 : mm_code 180 14 = some (Instr.iadd, 1, 0, 0, 0, []) := rfl
theorem c_180_15 : mm_code 180 15 = some (Instr.aload_n 0, 1, 0, 0, 0, []) := rfl
theorem c_180_16 : mm_code 180 16 = some (Instr.getfield 93, 3, 0, 10, 46, [903]) := rfl
theorem c_180_19 : mm_code 180 19 = some (Instr.iload_n 1, 1, 0, 0, 0, []) := rfl
theorem c_180_20 : mm_code 180 20 = some (Instr.iaload, 1, 0, 0, 0, []) := rfl
theorem c_180_21 : mm_code 180 21 = some (Instr.iconst 4, 1, 4, 0, 0, []) := rfl
theorem c_180_22 : mm_code 180 22 = some (Instr.isub, 1, 0, 0, 0, []) := rfl
theorem c_180_23 : mm_code 180 23 = some (Instr.invokevirtual 254, 3, 10, 172, 3, [1176, 1178, 40, 66, 1179]) := rfl
theorem c_180_26 : mm_code 180 26 = some (Instr.istore_n 3, 1, 0, 0, 0, []) := rfl
theorem c_180_27 : mm_code 180 27 = some (Instr.iload_n 3, 1, 0, 0, 0, []) := rfl
theorem c_180_28 : mm_code 180 28 = some (Instr.ifCond .lt 14, 3, 0, 42, 0, []) := rfl
theorem c_180_31 : mm_code 180 31 = some (Instr.aload_n 0, 1, 0, 0, 0, []) := rfl
theorem c_180_32 : mm_code 180 32 = some (Instr.bipush 30, 2, 30, 0, 0, []) := rfl
theorem c_180_34 : mm_code 180 34 = some (Instr.iload_n 1, 1, 0, 0, 0, []) := rfl
theorem c_180_35 : mm_code 180 35 = some (Instr.iconst 4, 1, 4, 0, 0, []) := rfl
theorem c_180_36 : mm_code 180 36 = some (Instr.iload_n 3, 1, 0, 0, 0, []) := rfl
theorem c_180_37 : mm_code 180 37 = some (Instr.iadd, 1, 0, 0, 0, []) := rfl
theorem c_180_38 : mm_code 180 38 = some (Instr.invokevirtual 269, 3, 10, 176, 3, [1193, 1195, 42, 66, 1196]) := rfl
theorem c_180_41 : mm_code 180 41 = some (Instr.ireturn, 1, 1, 0, 0, []) := rfl
theorem c_180_42 : mm_code 180 42 = some (Instr.iconst 0, 1, 0, 0, 0, []) := rfl
theorem c_180_43 : mm_code 180 43 = some (Instr.istore 4, 2, 0, 0, 0, []) := rfl
theorem c_180_45 : mm_code 180 45 = some (Instr.iconst 0, 1, 0, 0, 0, []) := rfl
theorem c_180_46 : mm_code 180 46 = some (Instr.istore 5, 2, 0, 0, 0, []) := rfl
theorem c_180_48 : mm_code 180 48 = some (Instr.iload 5, 2, 0, 0, 0, []) := rfl
theorem c_180_50 : mm_code 180 50 = some (Instr.aload_n 0, 1, 0, 0, 0, []) := rfl
theorem c_180_51 : mm_code 180 51 = some (Instr.getfield 244, 3, 0, 10, 36, [893]) := rfl
theorem c_180_54 : mm_code 180 54 = some (Instr.if_icmp .ge 33, 3, 0, 87, 0, []) := rfl
theorem c_180_57 : mm_code 180 57 = some (Instr.iload 4, 2, 0, 0, 0, []) := rfl
theorem c_180_59 : mm_code 180 59 = some (Instr.ifCond .ne 15, 3, 0, 74, 0, []) := rfl
theorem c_180_62 : mm_code 180 62 = some (Instr.aload_n 0, 1, 0, 0, 0, []) := rfl
theorem c_180_63 : mm_code 180 63 = some (Instr.getfield 81, 3, 0, 10, 35, [892]) := rfl
set_option maxRecDepth 100000 in theorem c_180_66 : mm_code 180 66 = some (Instr.iload 5, 2, 0, 0, 0, []) := rfl
set_option maxRecDepth 100000 in theorem c_180_68 : mm_code 180 68 = some (Instr.iaload, 1, 0, 0, 0, []) := rfl
set_option maxRecDepth 100000 in theorem c_180_69 : mm_code 180 69 = some (Instr.bipush 127, 2, 127, 0, 0, []) := rfl
set_option maxRecDepth 100000 in theorem c_180_71 : mm_code 180 71 = some (Instr.if_icmp .le 7, 3, 0, 78, 0, []) := rfl
set_option maxRecDepth 100000 in theorem c_180_74 : mm_code 180 74 = some (Instr.iconst 1, 1, 1, 0, 0, []) := rfl
set_option maxRecDepth 100000 in theorem c_180_75 : mm_code 180 75 = some (Instr.goto 4, 3, 0, 79, 0, []) := rfl
set_option maxRecDepth 100000 in theorem c_180_78 : mm_code 180 78 = some (Instr.iconst 0, 1, 0, 0, 0, []) := rfl
set_option maxRecDepth 100000 in theorem c_180_79 : mm_code 180 79 = some (Instr.istore 4, 2, 0, 0, 0, []) := rfl
set_option maxRecDepth 100000 in theorem c_180_81 : mm_code 180 81 = some (Instr.iinc 5 1, 3, 0, 0, 0, []) := rfl
set_option maxRecDepth 100000 in theorem c_180_84 : mm_code 180 84 = some (Instr.goto (-36), 3, 0, 48, 0, []) := rfl
set_option maxRecDepth 100000 in theorem c_180_87 : mm_code 180 87 = some (Instr.iload 4, 2, 0, 0, 0, []) := rfl
set_option maxRecDepth 100000 in theorem c_180_89 : mm_code 180 89 = some (Instr.ifCond .ne 12, 3, 0, 101, 0, []) := rfl
set_option maxRecDepth 100000 in theorem c_180_92 : mm_code 180 92 = some (Instr.aload_n 0, 1, 0, 0, 0, []) := rfl
set_option maxRecDepth 100000 in theorem c_180_93 : mm_code 180 93 = some (Instr.bipush 32, 2, 32, 0, 0, []) := rfl
set_option maxRecDepth 100000 in theorem c_180_95 : mm_code 180 95 = some (Instr.iload_n 1, 1, 0, 0, 0, []) := rfl
set_option maxRecDepth 100000 in theorem c_180_96 : mm_code 180 96 = some (Instr.iconst 0, 1, 0, 0, 0, []) := rfl
set_option maxRecDepth 100000 in theorem c_180_97 : mm_code 180 97 = some (Instr.invokevirtual 269, 3, 10, 176, 3, [1193, 1195, 42, 66, 1196]) := rfl
set_option maxRecDepth 100000 in theorem c_180_100 : mm_code 180 100 = some (Instr.ireturn, 1, 1, 0, 0, []) := rfl
set_option maxRecDepth 100000 in theorem c_180_101 : mm_code 180 101 = some (Instr.aload_n 0, 1, 0, 0, 0, []) := rfl
set_option maxRecDepth 100000 in theorem c_180_102 : mm_code 180 102 = some (Instr.getfield 93, 3, 0, 10, 46, [903]) := rfl
set_option maxRecDepth 100000 in theorem c_180_105 : mm_code 180 105 = some (Instr.iload_n 1, 1, 0, 0, 0, []) := rfl
set_option maxRecDepth 100000 in theorem c_180_106 : mm_code 180 106 = some (Instr.aload_n 0, 1, 0, 0, 0, []) := rfl
set_option maxRecDepth 100000 in theorem c_180_107 : mm_code 180 107 = some (Instr.getfield 244, 3, 0, 10, 36, [893]) := rfl
set_option maxRecDepth 100000 in theorem c_180_110 : mm_code 180 110 = some (Instr.iastore, 1, 0, 0, 0, []) := rfl
set_option maxRecDepth 100000 in theorem c_180_111 : mm_code 180 111 = some (Instr.iconst 0, 1, 0, 0, 0, []) := rfl
set_option maxRecDepth 100000 in theorem c_180_112 : mm_code 180 112 = some (Instr.istore 5, 2, 0, 0, 0, []) := rfl
set_option maxRecDepth 100000 in theorem c_180_114 : mm_code 180 114 = some (Instr.iload 5, 2, 0, 0, 0, []) := rfl
set_option maxRecDepth 100000 in theorem c_180_116 : mm_code 180 116 = some (Instr.aload_n 0, 1, 0, 0, 0, []) := rfl
set_option maxRecDepth 100000 in theorem c_180_117 : mm_code 180 117 = some (Instr.getfield 244, 3, 0, 10, 36, [893]) := rfl
set_option maxRecDepth 100000 in theorem c_180_120 : mm_code 180 120 = some (Instr.if_icmp .ge 25, 3, 0, 145, 0, []) := rfl
set_option maxRecDepth 100000 in theorem c_180_123 : mm_code 180 123 = some (Instr.aload_n 0, 1, 0, 0, 0, []) := rfl
set_option maxRecDepth 100000 in theorem c_180_124 : mm_code 180 124 = some (Instr.getfield 87, 3, 0, 10, 44, [901]) := rfl
set_option maxRecDepth 100000 in theorem c_180_127 : mm_code 180 127 = some (Instr.iload_n 2, 1, 0, 0, 0, []) := rfl
set_option maxRecDepth 100000 in theorem c_180_128 : mm_code 180 128 = some (Instr.iload 5, 2, 0, 0, 0, []) := rfl
set_option maxRecDepth 100000 in theorem c_180_130 : mm_code 180 130 = some (Instr.iadd, 1, 0, 0, 0, []) := rfl
set_option maxRecDepth 100000 in theorem c_180_131 : mm_code 180 131 = some (Instr.aload_n 0, 1, 0, 0, 0, []) := rfl
set_option maxRecDepth 100000 in theorem c_180_132 : mm_code 180 132 = some (Instr.getfield 81, 3, 0, 10, 35, [892]) := rfl
set_option maxRecDepth 100000 in theorem c_180_135 : mm_code 180 135 = some (Instr.iload 5, 2, 0, 0, 0, []) := rfl
set_option maxRecDepth 100000 in theorem c_180_137 : mm_code 180 137 = some (Instr.iaload, 1, 0, 0, 0, []) := rfl
set_option maxRecDepth 100000 in theorem c_180_138 : mm_code 180 138 = some (Instr.iastore, 1, 0, 0, 0, []) := rfl
set_option maxRecDepth 100000 in theorem c_180_139 : mm_code 180 139 = some (Instr.iinc 5 1, 3, 0, 0, 0, []) := rfl
set_option maxRecDepth 100000 in theorem c_180_142 : mm_code 180 142 = some (Instr.goto (-28), 3, 0, 114, 0, []) := rfl
set_option maxRecDepth 100000 in theorem c_180_145 : mm_code 180 145 = some (Instr.aload_n 0, 1, 0, 0, 0, []) := rfl
set_option maxRecDepth 100000 in theorem c_180_146 : mm_code 180 146 = some (Instr.aload_n 0, 1, 0, 0, 0, []) := rfl
set_option maxRecDepth 100000 in theorem c_180_147 : mm_code 180 147 = some (Instr.getfield 87, 3, 0, 10, 44, [901]) := rfl
set_option maxRecDepth 100000 in theorem c_180_150 : mm_code 180 150 = some (Instr.iload_n 2, 1, 0, 0, 0, []) := rfl
set_option maxRecDepth 100000 in theorem c_180_151 : mm_code 180 151 = some (Instr.aload_n 0, 1, 0, 0, 0, []) := rfl
set_option maxRecDepth 100000 in theorem c_180_152 : mm_code 180 152 = some (Instr.getfield 244, 3, 0, 10, 36, [893]) := rfl
set_option maxRecDepth 100000 in theorem c_180_155 : mm_code 180 155 = some (Instr.invokevirtual 198, 3, 10, 157, 3, [1111, 1113, 32, 66, 1114]) := rfl
set_option maxRecDepth 100000 in theorem c_180_158 : mm_code 180 158 = some (Instr.ifCond .ne 12, 3, 0, 170, 0, []) := rfl
set_option maxRecDepth 100000 in theorem c_180_161 : mm_code 180 161 = some (Instr.aload_n 0, 1, 0, 0, 0, []) := rfl
set_option maxRecDepth 100000 in theorem c_180_162 : mm_code 180 162 = some (Instr.bipush 60, 2, 60, 0, 0, []) := rfl
set_option maxRecDepth 100000 in theorem c_180_164 : mm_code 180 164 = some (Instr.iload_n 1, 1, 0, 0, 0, []) := rfl
set_option maxRecDepth 100000 in theorem c_180_165 : mm_code 180 165 = some (Instr.iconst 0, 1, 0, 0, 0, []) := rfl
set_option maxRecDepth 100000 in theorem c_180_166 : mm_code 180 166 = some (Instr.invokevirtual 269, 3, 10, 176, 3, [1193, 1195, 42, 66, 1196]) := rfl
set_option maxRecDepth 100000 in theorem c_180_169 : mm_code 180 169 = some (Instr.ireturn, 1, 1, 0, 0, []) := rfl
set_option maxRecDepth 100000 in theorem c_180_170 : mm_code 180 170 = some (Instr.aload_n 0, 1, 0, 0, 0, []) := rfl
set_option maxRecDepth 100000 in theorem c_180_171 : mm_code 180 171 = some (Instr.aload_n 0, 1, 0, 0, 0, []) := rfl
set_option maxRecDepth 100000 in theorem c_180_172 : mm_code 180 172 = some (Instr.getfield 87, 3, 0, 10, 44, [901]) := rfl
set_option maxRecDepth 100000 in theorem c_180_175 : mm_code 180 175 = some (Instr.iload_n 2, 1, 0, 0, 0, []) := rfl
set_option maxRecDepth 100000 in theorem c_180_176 : mm_code 180 176 = some (Instr.aload_n 0, 1, 0, 0, 0, []) := rfl
set_option maxRecDepth 100000 in theorem c_180_177 : mm_code 180 177 = some (Instr.getfield 244, 3, 0, 10, 36, [893]) := rfl
set_option maxRecDepth 100000 in theorem c_180_180 : mm_code 180 180 = some (Instr.invokevirtual 201, 3, 10, 162, 3, [1131, 1133, 36, 66, 1134]) := rfl
set_option maxRecDepth 100000 in theorem c_180_183 : mm_code 180 183 = some (Instr.istore_n 3, 1, 0, 0, 0, []) := rfl
set_option maxRecDepth 100000 in theorem c_180_184 : mm_code 180 184 = some (Instr.iload_n 3, 1, 0, 0, 0, []) := rfl
set_option maxRecDepth 100000 in theorem c_180_185 : mm_code 180 185 = some (Instr.ifCond .lt 14, 3, 0, 199, 0, []) := rfl
set_option maxRecDepth 100000 in theorem c_180_188 : mm_code 180 188 = some (Instr.aload_n 0, 1, 0, 0, 0, []) := rfl
set_option maxRecDepth 100000 in theorem c_180_189 : mm_code 180 189 = some (Instr.bipush 40, 2, 40, 0, 0, []) := rfl
set_option maxRecDepth 100000 in theorem c_180_191 : mm_code 180 191 = some (Instr.iload_n 1, 1, 0, 0, 0, []) := rfl
set_option maxRecDepth 100000 in theorem c_180_192 : mm_code 180 192 = some (Instr.iload_n 3, 1, 0, 0, 0, []) := rfl
set_option maxRecDepth 100000 in theorem c_180_193 : mm_code 180 193 = some (Instr.invokevirtual 269, 3, 10, 176, 3, [1193, 1195, 42, 66, 1196]) := rfl
set_option maxRecDepth 100000 in theorem c_180_196 : mm_code 180 196 = some (Instr.ifCond .eq 7, 3, 0, 203, 0, []) := rfl
set_option maxRecDepth 100000 in theorem c_180_199 : mm_code 180 199 = some (Instr.iconst 1, 1, 1, 0, 0, []) := rfl
set_option maxRecDepth 100000 in theorem c_180_200 : mm_code 180 200 = some (Instr.goto 4, 3, 0, 204, 0, []) := rfl
set_option maxRecDepth 100000 in theorem c_180_203 : mm_code 180 203 = some (Instr.iconst 0, 1, 0, 0, 0, []) := rfl
set_option maxRecDepth 100000 in theorem c_180_204 : mm_code 180 204 = some (Instr.ireturn, 1, 1, 0, 0, []) := rfl
theorem c_181_0 : mm_code 181 0 = some (Instr.iload_n 3, 1, 0, 0, 0, []) := rfl
theorem c_181_1 : mm_code 181 1 = some (Instr.ifCond .le 24, 3, 0, 25, 0, []) := rfl
theorem c_181_4 : mm_code 181 4 = some (Instr.aload_n 0, 1, 0, 0, 0, []) := rfl
theorem c_181_5 : mm_code 181 5 = some (Instr.aload_n 0, 1, 0, 0, 0, []) := rfl
theorem c_181_6 : mm_code 181 6 = some (Instr.getfield 87, 3, 0, 10, 44, [901]) := rfl
theorem c_181_9 : mm_code 181 9 = some (Instr.iload_n 1, 1, 0, 0, 0, []) := rfl
theorem c_181_10 : mm_code 181 10 = some (Instr.iload_n 3, 1, 0, 0, 0, []) := rfl
theorem c_181_11 : mm_code 181 11 = some (Instr.iadd, 1, 0, 0, 0, []) := rfl
theorem c_181_12 : mm_code 181 12 = some (Instr.iconst 1, 1, 1, 0, 0, []) := rfl
theorem c_181_13 : mm_code 181 13 = some (Instr.isub, 1, 0, 0, 0, []) := rfl
theorem c_181_14 : mm_code 181 14 = some (Instr.iaload, 1, 0, 0, 0, []) := rfl
theorem c_181_15 : mm_code 181 15 = some (Instr.invokevirtual 169, 3, 10, 150, 1, [1083, 1085, 28, 66, 1086]) := rfl
theorem c_181_18 : mm_code 181 18 = some (Instr.bipush 9, 2, 9, 0, 0, []) := rfl
theorem c_181_20 : mm_code 181 20 = some (Instr.if_icmp .ne 5, 3, 0, 25, 0, []) := rfl
theorem c_181_23 : mm_code 181 23 = some (Instr.iconst 1, 1, 1, 0, 0, []) := rfl
theorem c_181_24 : mm_code 181 24 = some (Instr.ireturn, 1, 1, 0, 0, []) := rfl
theorem c_181_25 : mm_code 181 25 = some (Instr.aload_n 0, 1, 0, 0, 0, []) := rfl
theorem c_181_26 : mm_code 181 26 = some (Instr.getfield 87, 3, 0, 10, 44, [901]) := rfl
theorem c_181_29 : mm_code 181 29 = some (Instr.iload_n 1, 1, 0, 0, 0, []) := rfl
theorem c_181_30 : mm_code 181 30 = some (Instr.iload_n 3, 1, 0, 0, 0, []) := rfl
theorem c_181_31 : mm_code 181 31 = some (Instr.iadd, 1, 0, 0, 0, []) := rfl
theorem c_181_32 : mm_code 181 32 = some (Instr.iaload, 1, 0, 0, 0, []) := rfl
theorem c_181_33 : mm_code 181 33 = some (Instr.sipush 8205, 3, 8205, 0, 0, []) := rfl
theorem c_181_36 : mm_code 181 36 = some (Instr.if_icmp .ne 5, 3, 0, 41, 0, []) := rfl
theorem c_181_39 : mm_code 181 39 = some (Instr.iconst 0, 1, 0, 0, 0, []) := rfl
theorem c_181_40 : mm_code 181 40 = some (Instr.ireturn, 1, 1, 0, 0, []) := rfl
theorem c_181_41 : mm_code 181 41 = some (Instr.iload_n 3, 1, 0, 0, 0, []) := rfl
theorem c_181_42 : mm_code 181 42 = some (Instr.iconst 1, 1, 1, 0, 0, []) := rfl
theorem c_181_43 : mm_code 181 43 = some (Instr.isub, 1, 0, 0, 0, []) := rfl
theorem c_181_44 : mm_code 181 44 = some (Instr.istore 4, 2, 0, 0, 0, []) := rfl
theorem c_181_46 : mm_code 181 46 = some (Instr.iload 4, 2, 0, 0, 0, []) := rfl
theorem c_181_48 : mm_code 181 48 = some (Instr.ifCond .lt 27, 3, 0, 75, 0, []) := rfl
theorem c_181_51 : mm_code 181 51 = some (Instr.aload_n 0, 1, 0, 0, 0, []) := rfl
theorem c_181_52 : mm_code 181 52 = some (Instr.iconst 2, 1, 2, 0, 0, []) := rfl
theorem c_181_53 : mm_code 181 53 = some (Instr.aload_n 0, 1, 0, 0, 0, []) := rfl
theorem c_181_54 : mm_code 181 54 = some (Instr.getfield 87, 3, 0, 10, 44, [901]) := rfl
theorem c_181_57 : mm_code 181 57 = some (Instr.iload_n 1, 1, 0, 0, 0, []) := rfl
theorem c_181_58 : mm_code 181 58 = some (Instr.iload 4, 2, 0, 0, 0, []) := rfl
theorem c_181_60 : mm_code 181 60 = some (Instr.iadd, 1, 0, 0, 0, []) := rfl
theorem c_181_61 : mm_code 181 61 = some (Instr.iaload, 1, 0, 0, 0, []) := rfl
theorem c_181_62 : mm_code 181 62 = some (Instr.invokevirtual 178, 3, 10, 155, 2, [1103, 1105, 31, 66, 1106]) := rfl
set_option maxRecDepth 100000 in theorem c_181_65 : mm_code 181 65 = some (Instr.iconst 4, 1, 4, 0, 0, []) := rfl
set_option maxRecDepth 100000 in theorem c_181_66 : mm_code 181 66 = some (Instr.if_icmp .ne 9, 3, 0, 75, 0, []) := rfl
set_option maxRecDepth 100000 in theorem c_181_69 : mm_code 181 69 = some (Instr.iinc 4 (-1), 3, 0, 0, 0, []) := rfl
set_option maxRecDepth 100000 in theorem c_181_72 : mm_code 181 72 = some (Instr.goto (-26), 3, 0, 46, 0, []) := rfl
set_option maxRecDepth 100000 in theorem c_181_75 : mm_code 181 75 = some (Instr.iload_n 3, 1, 0, 0, 0, []) := rfl
set_option maxRecDepth 100000 in theorem c_181_76 : mm_code 181 76 = some (Instr.iconst 1, 1, 1, 0, 0, []) := rfl
set_option maxRecDepth 100000 in theorem c_181_77 : mm_code 181 77 = some (Instr.iadd, 1, 0, 0, 0, []) := rfl
set_option maxRecDepth 100000 in theorem c_181_78 : mm_code 181 78 = some (Instr.istore 5, 2, 0, 0, 0, []) := rfl
set_option maxRecDepth 100000 in theorem c_181_80 : mm_code 181 80 = some (Instr.iload 5, 2, 0, 0, 0, []) := rfl
set_option maxRecDepth 100000 in theorem c_181_82 : mm_code 181 82 = some (Instr.iload_n 2, 1, 0, 0, 0, []) := rfl
set_option maxRecDepth 100000 in theorem c_181_83 : mm_code 181 83 = some (Instr.if_icmp .ge 27, 3, 0, 110, 0, []) := rfl
set_option maxRecDepth 100000 in theorem c_181_86 : mm_code 181 86 = some (Instr.aload_n 0, 1, 0, 0, 0, []) := rfl
set_option maxRecDepth 100000 in theorem c_181_87 : mm_code 181 87 = some (Instr.iconst 2, 1, 2, 0, 0, []) := rfl
set_option maxRecDepth 100000 in theorem c_181_88 : mm_code 181 88 = some (Instr.aload_n 0, 1, 0, 0, 0, []) := rfl
set_option maxRecDepth 100000 in theorem c_181_89 : mm_code 181 89 = some (Instr.getfield 87, 3, 0, 10, 44, [901]) := rfl
set_option maxRecDepth 100000 in theorem c_181_92 : mm_code 181 92 = some (Instr.iload_n 1, 1, 0, 0, 0, []) := rfl
set_option maxRecDepth 100000 in theorem c_181_93 : mm_code 181 93 = some (Instr.iload 5, 2, 0, 0, 0, []) := rfl
set_option maxRecDepth 100000 in theorem c_181_95 : mm_code 181 95 = some (Instr.iadd, 1, 0, 0, 0, []) := rfl
set_option maxRecDepth 100000 in theorem c_181_96 : mm_code 181 96 = some (Instr.iaload, 1, 0, 0, 0, []) := rfl
set_option maxRecDepth 100000 in theorem c_181_97 : mm_code 181 97 = some (Instr.invokevirtual 178, 3, 10, 155, 2, [1103, 1105, 31, 66, 1106]) := rfl
set_option maxRecDepth 100000 in theorem c_181_100 : mm_code 181 100 = some (Instr.iconst 4, 1, 4, 0, 0, []) := rfl
set_option maxRecDepth 100000 in theorem c_181_101 : mm_code 181 101 = some (Instr.if_icmp .ne 9, 3, 0, 110, 0, []) := rfl
set_option maxRecDepth 100000 in theorem c_181_104 : mm_code 181 104 = some (Instr.iinc 5 1, 3, 0, 0, 0, []) := rfl
set_option maxRecDepth 100000 in theorem c_181_107 : mm_code 181 107 = some (Instr.goto (-27), 3, 0, 80, 0, []) := rfl
set_option maxRecDepth 100000 in theorem c_181_110 : mm_code 181 110 = some (Instr.iload 4, 2, 0, 0, 0, []) := rfl
set_option maxRecDepth 100000 in theorem c_181_112 : mm_code 181 112 = some (Instr.ifCond .ge 7, 3, 0, 119, 0, []) := rfl
set_option maxRecDepth 100000 in theorem c_181_115 : mm_code 181 115 = some (Instr.iconst 0, 1, 0, 0, 0, []) := rfl
set_option maxRecDepth 100000 in theorem c_181_116 : mm_code 181 116 = some (Instr.goto 17, 3, 0, 133, 0, []) := rfl
set_option maxRecDepth 100000 in theorem c_181_119 : mm_code 181 119 = some (Instr.aload_n 0, 1, 0, 0, 0, []) := rfl
set_option maxRecDepth 100000 in theorem c_181_120 : mm_code 181 120 = some (Instr.iconst 2, 1, 2, 0, 0, []) := rfl
set_option maxRecDepth 100000 in theorem c_181_121 : mm_code 181 121 = some (Instr.aload_n 0, 1, 0, 0, 0, []) := rfl
set_option maxRecDepth 100000 in theorem c_181_122 : mm_code 181 122 = some (Instr.getfield 87, 3, 0, 10, 44, [901]) := rfl
set_option maxRecDepth 100000 in theorem c_181_125 : mm_code 181 125 = some (Instr.iload_n 1, 1, 0, 0, 0, []) := rfl
set_option maxRecDepth 100000 in theorem c_181_126 : mm_code 181 126 = some (Instr.iload 4, 2, 0, 0, 0, []) := rfl
set_option maxRecDepth 100000 in theorem c_181_128 : mm_code 181 128 = some (Instr.iadd, 1, 0, 0, 0, []) := rfl
set_option maxRecDepth 100000 in theorem c_181_129 : mm_code 181 129 = some (Instr.iaload, 1, 0, 0, 0, []) := rfl
set_option maxRecDepth 100000 in theorem c_181_130 : mm_code 181 130 = some (Instr.invokevirtual 178, 3, 10, 155, 2, [1103, 1105, 31, 66, 1106]) := rfl
set_option maxRecDepth 100000 in theorem c_181_133 : mm_code 181 133 = some (Instr.istore 6, 2, 0, 0, 0, []) := rfl
set_option maxRecDepth 100000 in theorem c_181_135 : mm_code 181 135 = some (Instr.iload 5, 2, 0, 0, 0, []) := rfl
set_option maxRecDepth 100000 in theorem c_181_137 : mm_code 181 137 = some (Instr.iload_n 2, 1, 0, 0, 0, []) := rfl
set_option maxRecDepth 100000 in theorem c_181_138 : mm_code 181 138 = some (Instr.if_icmp .lt 7, 3, 0, 145, 0, []) := rfl
set_option maxRecDepth 100000 in theorem c_181_141 : mm_code 181 141 = some (Instr.iconst 0, 1, 0, 0, 0, []) := rfl
set_option maxRecDepth 100000 in theorem c_181_142 : mm_code 181 142 = some (Instr.goto 17, 3, 0, 159, 0, []) := rfl
set_option maxRecDepth 100000 in theorem c_181_145 : mm_code 181 145 = some (Instr.aload_n 0, 1, 0, 0, 0, []) := rfl
set_option maxRecDepth 100000 in theorem c_181_146 : mm_code 181 146 = some (Instr.iconst 2, 1, 2, 0, 0, []) := rfl
set_option maxRecDepth 100000 in theorem c_181_147 : mm_code 181 147 = some (Instr.aload_n 0, 1, 0, 0, 0, []) := rfl
set_option maxRecDepth 100000 in theorem c_181_148 : mm_code 181 148 = some (Instr.getfield 87, 3, 0, 10, 44, [901]) := rfl
set_option maxRecDepth 100000 in theorem c_181_151 : mm_code 181 151 = some (Instr.iload_n 1, 1, 0, 0, 0, []) := rfl
set_option maxRecDepth 100000 in theorem c_181_152 : mm_code 181 152 = some (Instr.iload 5, 2, 0, 0, 0, []) := rfl
set_option maxRecDepth 100000 in theorem c_181_154 : mm_code 181 154 = some (Instr.iadd, 1, 0, 0, 0, []) := rfl
set_option maxRecDepth 100000 in theorem c_181_155 : mm_code 181 155 = some (Instr.iaload, 1, 0, 0, 0, []) := rfl
set_option maxRecDepth 100000 in theorem c_181_156 : mm_code 181 156 = some (Instr.invokevirtual 178, 3, 10, 155, 2, [1103, 1105, 31, 66, 1106]) := rfl
set_option maxRecDepth 100000 in theorem c_181_159 : mm_code 181 159 = some (Instr.istore 7, 2, 0, 0, 0, []) := rfl
set_option maxRecDepth 100000 in theorem c_181_161 : mm_code 181 161 = some (Instr.iload 6, 2, 0, 0, 0, []) := rfl
set_option maxRecDepth 100000 in theorem c_181_163 : mm_code 181 163 = some (Instr.iconst 1, 1, 1, 0, 0, []) := rfl
set_option maxRecDepth 100000 in theorem c_181_164 : mm_code 181 164 = some (Instr.if_icmp .eq 9, 3, 0, 173, 0, []) := rfl
set_option maxRecDepth 100000 in theorem c_181_167 : mm_code 181 167 = some (Instr.iload 6, 2, 0, 0, 0, []) := rfl
set_option maxRecDepth 100000 in theorem c_181_169 : mm_code 181 169 = some (Instr.iconst 3, 1, 3, 0, 0, []) := rfl
set_option maxRecDepth 100000 in theorem c_181_170 : mm_code 181 170 = some (Instr.if_icmp .ne 19, 3, 0, 189, 0, []) := rfl
set_option maxRecDepth 100000 in theorem c_181_173 : mm_code 181 173 = some (Instr.iload 7, 2, 0, 0, 0, []) := rfl
set_option maxRecDepth 100000 in theorem c_181_175 : mm_code 181 175 = some (Instr.iconst 2, 1, 2, 0, 0, []) := rfl
set_option maxRecDepth 100000 in theorem c_181_176 : mm_code 181 176 = some (Instr.if_icmp .eq 9, 3, 0, 185, 0, []) := rfl
set_option maxRecDepth 100000 in theorem c_181_179 : mm_code 181 179 = some (Instr.iload 7, 2, 0, 0, 0, []) := rfl
set_option maxRecDepth 100000 in theorem c_181_181 : mm_code 181 181 = some (Instr.iconst 3, 1, 3, 0, 0, []) := rfl
set_option maxRecDepth 100000 in theorem c_181_182 : mm_code 181 182 = some (Instr.if_icmp .ne 7, 3, 0, 189, 0, []) := rfl
set_option maxRecDepth 100000 in theorem c_181_185 : mm_code 181 185 = some (Instr.iconst 1, 1, 1, 0, 0, []) := rfl
set_option maxRecDepth 100000 in theorem c_181_186 : mm_code 181 186 = some (Instr.goto 4, 3, 0, 190, 0, []) := rfl
set_option maxRecDepth 100000 in theorem c_181_189 : mm_code 181 189 = some (Instr.iconst 0, 1, 0, 0, 0, []) := rfl
set_option maxRecDepth 100000 in theorem c_181_190 : mm_code 181 190 = some (Instr.ireturn, 1, 1, 0, 0, []) := rfl
theorem c_182_0 : mm_code 182 0 = some (Instr.iconst 0, 1, 0, 0, 0, []) := rfl
theorem c_182_1 : mm_code 182 1 = some (Instr.istore_n 1, 1, 0, 0, 0, []) := rfl
theorem c_182_2 : mm_code 182 2 = some (Instr.iconst 0, 1, 0, 0, 0, []) := rfl
theorem c_182_3 : mm_code 182 3 = some (Instr.istore_n 2, 1, 0, 0, 0, []) := rfl
theorem c_182_4 : mm_code 182 4 = some (Instr.iload_n 2, 1, 0, 0, 0, []) := rfl
theorem c_182_5 : mm_code 182 5 = some (Instr.aload_n 0, 1, 0, 0, 0, []) := rfl
theorem c_182_6 : mm_code 182 6 = some (Instr.getfield 272, 3, 0, 10, 43, [900]) := rfl
theorem c_182_9 : mm_code 182 9 = some (Instr.if_icmp .ge 63, 3, 0, 72, 0, []) := rfl
theorem c_182_12 : mm_code 182 12 = some (Instr.iconst 0, 1, 0, 0, 0, []) := rfl
theorem c_182_13 : mm_code 182 13 = some (Instr.istore_n 3, 1, 0, 0, 0, []) := rfl
theorem c_182_14 : mm_code 182 14 = some (Instr.iload_n 3, 1, 0, 0, 0, []) := rfl
theorem c_182_15 : mm_code 182 15 = some (Instr.aload_n 0, 1, 0, 0, 0, []) := rfl
theorem c_182_16 : mm_code 182 16 = some (Instr.getfield 93, 3, 0, 10, 46, [903]) := rfl
theorem c_182_19 : mm_code 182 19 = some (Instr.iload_n 2, 1, 0, 0, 0, []) := rfl
theorem c_182_20 : mm_code 182 20 = some (Instr.iaload, 1, 0, 0, 0, []) := rfl
theorem c_182_21 : mm_code 182 21 = some (Instr.if_icmp .ge 45, 3, 0, 66, 0, []) := rfl
theorem c_182_24 : mm_code 182 24 = some (Instr.iload_n 1, 1, 0, 0, 0, []) := rfl
theorem c_182_25 : mm_code 182 25 = some (Instr.ifCond .ne 29, 3, 0, 54, 0, []) := rfl
theorem c_182_28 : mm_code 182 28 = some (Instr.aload_n 0, 1, 0, 0, 0, []) := rfl
theorem c_182_29 : mm_code 182 29 = some (Instr.iconst 1, 1, 1, 0, 0, []) := rfl
theorem c_182_30 : mm_code 182 30 = some (Instr.aload_n 0, 1, 0, 0, 0, []) := rfl
theorem c_182_31 : mm_code 182 31 = some (Instr.getfield 87, 3, 0, 10, 44, [901]) := rfl
theorem c_182_34 : mm_code 182 34 = some (Instr.aload_n 0, 1, 0, 0, 0, []) := rfl
theorem c_182_35 : mm_code 182 35 = some (Instr.getfield 90, 3, 0, 10, 45, [902]) := rfl
theorem c_182_38 : mm_code 182 38 = some (Instr.iload_n 2, 1, 0, 0, 0, []) := rfl
theorem c_182_39 : mm_code 182 39 = some (Instr.iaload, 1, 0, 0, 0, []) := rfl
theorem c_182_40 : mm_code 182 40 = some (Instr.iload_n 3, 1, 0, 0, 0, []) := rfl
theorem c_182_41 : mm_code 182 41 = some (Instr.iadd, 1, 0, 0, 0, []) := rfl
theorem c_182_42 : mm_code 182 42 = some (Instr.iaload, 1, 0, 0, 0, []) := rfl
theorem c_182_43 : mm_code 182 43 = some (Instr.invokevirtual 178, 3, 10, 155, 2, [1103, 1105, 31, 66, 1106]) := rfl
theorem c_182_46 : mm_code 182 46 = some (Instr.iconst 1, 1, 1, 0, 0, []) := rfl
theorem c_182_47 : mm_code 182 47 = some (Instr.iconst 3, 1, 3, 0, 0, []) := rfl
theorem c_182_48 : mm_code 182 48 = some (Instr.invokestatic 116, 3, 0, 135, 3, [1022, 1023, 66, 1024]) := rfl
theorem c_182_51 : mm_code 182 51 = some (Instr.ifCond .eq 7, 3, 0, 58, 0, []) := rfl
theorem c_182_54 : mm_code 182 54 = some (Instr.iconst 1, 1, 1, 0, 0, []) := rfl
theorem c_182_55 : mm_code 182 55 = some (Instr.goto 4, 3, 0, 59, 0, []) := rfl
theorem c_182_58 : mm_code 182 58 = some (Instr.iconst 0, 1, 0, 0, 0, []) := rfl
theorem c_182_59 : mm_code 182 59 = some (Instr.istore_n 1, 1, 0, 0, 0, []) := rfl
theorem c_182_60 : mm_code 182 60 = some (Instr.iinc 3 1, 3, 0, 0, 0, []) := rfl
theorem c_182_63 : mm_code 182 63 = some (Instr.goto (-49), 3, 0, 14, 0, []) := rfl
theorem c_182_66 : mm_code 182 66 = some (Instr.iinc 2 1, 3, 0, 0, 0, []) := rfl
set_option maxRecDepth 100000 in theorem c_182_69 : mm_code 182 69 = some (Instr.goto (-65), 3, 0, 4, 0, []) := rfl
set_option maxRecDepth 100000 in theorem c_182_72 : mm_code 182 72 = some (Instr.iconst 0, 1, 0, 0, 0, []) := rfl
set_option maxRecDepth 100000 in theorem c_182_73 : mm_code 182 73 = some (Instr.istore_n 2, 1, 0, 0, 0, []) := rfl
set_option maxRecDepth 100000 in theorem c_182_74 : mm_code 182 74 = some (Instr.iload_n 2, 1, 0, 0, 0, []) := rfl
set_option maxRecDepth 100000 in theorem c_182_75 : mm_code 182 75 = some (Instr.aload_n 0, 1, 0, 0, 0, []) := rfl
set_option maxRecDepth 100000 in theorem c_182_76 : mm_code 182 76 = some (Instr.getfield 272, 3, 0, 10, 43, [900]) := rfl
set_option maxRecDepth 100000 in theorem c_182_79 : mm_code 182 79 = some (Instr.if_icmp .ge 32, 3, 0, 111, 0, []) := rfl
set_option maxRecDepth 100000 in theorem c_182_82 : mm_code 182 82 = some (Instr.iload_n 1, 1, 0, 0, 0, []) := rfl
set_option maxRecDepth 100000 in theorem c_182_83 : mm_code 182 83 = some (Instr.ifCond .eq 28, 3, 0, 111, 0, []) := rfl
set_option maxRecDepth 100000 in theorem c_182_86 : mm_code 182 86 = some (Instr.aload_n 0, 1, 0, 0, 0, []) := rfl
set_option maxRecDepth 100000 in theorem c_182_87 : mm_code 182 87 = some (Instr.getfield 93, 3, 0, 10, 46, [903]) := rfl
set_option maxRecDepth 100000 in theorem c_182_90 : mm_code 182 90 = some (Instr.iload_n 2, 1, 0, 0, 0, []) := rfl
set_option maxRecDepth 100000 in theorem c_182_91 : mm_code 182 91 = some (Instr.iaload, 1, 0, 0, 0, []) := rfl
set_option maxRecDepth 100000 in theorem c_182_92 : mm_code 182 92 = some (Instr.ifCond .le 13, 3, 0, 105, 0, []) := rfl
set_option maxRecDepth 100000 in theorem c_182_95 : mm_code 182 95 = some (Instr.aload_n 0, 1, 0, 0, 0, []) := rfl
set_option maxRecDepth 100000 in theorem c_182_96 : mm_code 182 96 = some (Instr.iload_n 2, 1, 0, 0, 0, []) := rfl
set_option maxRecDepth 100000 in theorem c_182_97 : mm_code 182 97 = some (Instr.invokevirtual 281, 3, 10, 183, 1, [1221, 1223, 49, 66, 1224]) := rfl
set_option maxRecDepth 100000 in theorem c_182_100 : mm_code 182 100 = some (Instr.ifCond .ne 5, 3, 0, 105, 0, []) := rfl
set_option maxRecDepth 100000 in theorem c_182_103 : mm_code 182 103 = some (Instr.iconst 0, 1, 0, 0, 0, []) := rfl
set_option maxRecDepth 100000 in theorem c_182_104 : mm_code 182 104 = some (Instr.ireturn, 1, 1, 0, 0, []) := rfl
set_option maxRecDepth 100000 in theorem c_182_105 : mm_code 182 105 = some (Instr.iinc 2 1, 3, 0, 0, 0, []) := rfl
set_option maxRecDepth 100000 in theorem c_182_108 : mm_code 182 108 = some (Instr.goto (-34), 3, 0, 74, 0, []) := rfl
set_option maxRecDepth 100000 in theorem c_182_111 : mm_code 182 111 = some (Instr.iconst 1, 1, 1, 0, 0, []) := rfl
set_option maxRecDepth 100000 in theorem c_182_112 : mm_code 182 112 = some (Instr.ireturn, 1, 1, 0, 0, []) := rfl
theorem c_183_0 : mm_code 183 0 = some (Instr.aload_n 0, 1, 0, 0, 0, []) := rfl
theorem c_183_1 : mm_code 183 1 = some (Instr.getfield 90, 3, 0, 10, 45, [902]) := rfl
theorem c_183_4 : mm_code 183 4 = some (Instr.iload_n 1, 1, 0, 0, 0, []) := rfl
theorem c_183_5 : mm_code 183 5 = some (Instr.iaload, 1, 0, 0, 0, []) := rfl
theorem c_183_6 : mm_code 183 6 = some (Instr.istore_n 2, 1, 0, 0, 0, []) := rfl
theorem c_183_7 : mm_code 183 7 = some (Instr.aload_n 0, 1, 0, 0, 0, []) := rfl
theorem c_183_8 : mm_code 183 8 = some (Instr.getfield 93, 3, 0, 10, 46, [903]) := rfl
theorem c_183_11 : mm_code 183 11 = some (Instr.iload_n 1, 1, 0, 0, 0, []) := rfl
theorem c_183_12 : mm_code 183 12 = some (Instr.iaload, 1, 0, 0, 0, []) := rfl
theorem c_183_13 : mm_code 183 13 = some (Instr.istore_n 3, 1, 0, 0, 0, []) := rfl
theorem c_183_14 : mm_code 183 14 = some (Instr.aload_n 0, 1, 0, 0, 0, []) := rfl
theorem c_183_15 : mm_code 183 15 = some (Instr.iconst 1, 1, 1, 0, 0, []) := rfl
theorem c_183_16 : mm_code 183 16 = some (Instr.aload_n 0, 1, 0, 0, 0, []) := rfl
theorem c_183_17 : mm_code 183 17 = some (Instr.getfield 87, 3, 0, 10, 44, [901]) := rfl
theorem c_183_20 : mm_code 183 20 = some (Instr.iload_n 2, 1, 0, 0, 0, []) := rfl
theorem c_183_21 : mm_code 183 21 = some (Instr.iaload, 1, 0, 0, 0, []) := rfl
theorem c_183_22 : mm_code 183 22 = some (Instr.invokevirtual 178, 3, 10, 155, 2, [1103, 1105, 31, 66, 1106]) := rfl
theorem c_183_25 : mm_code 183 25 = some (Instr.istore 4, 2, 0, 0, 0, []) := rfl
theorem c_183_27 : mm_code 183 27 = some (Instr.iload 4, 2, 0, 0, 0, []) := rfl
theorem c_183_29 : mm_code 183 29 = some (Instr.iconst 0, 1, 0, 0, 0, []) := rfl
theorem c_183_30 : mm_code 183 30 = some (Instr.iconst 2, 1, 2, 0, 0, []) := rfl
theorem c_183_31 : mm_code 183 31 = some (Instr.invokestatic 116, 3, 0, 135, 3, [1022, 1023, 66, 1024]) := rfl
theorem c_183_34 : mm_code 183 34 = some (Instr.ifCond .ne 12, 3, 0, 46, 0, []) := rfl
theorem c_183_37 : mm_code 183 37 = some (Instr.aload_n 0, 1, 0, 0, 0, []) := rfl
theorem c_183_38 : mm_code 183 38 = some (Instr.bipush 46, 2, 46, 0, 0, []) := rfl
theorem c_183_40 : mm_code 183 40 = some (Instr.iload_n 1, 1, 0, 0, 0, []) := rfl
theorem c_183_41 : mm_code 183 41 = some (Instr.iconst 0, 1, 0, 0, 0, []) := rfl
theorem c_183_42 : mm_code 183 42 = some (Instr.invokevirtual 269, 3, 10, 176, 3, [1193, 1195, 42, 66, 1196]) := rfl
theorem c_183_45 : mm_code 183 45 = some (Instr.ireturn, 1, 1, 0, 0, []) := rfl
theorem c_183_46 : mm_code 183 46 = some (Instr.iload 4, 2, 0, 0, 0, []) := rfl
theorem c_183_48 : mm_code 183 48 = some (Instr.ifCond .ne 7, 3, 0, 55, 0, []) := rfl
theorem c_183_51 : mm_code 183 51 = some (Instr.iconst 1, 1, 1, 0, 0, []) := rfl
theorem c_183_52 : mm_code 183 52 = some (Instr.goto 4, 3, 0, 56, 0, []) := rfl
theorem c_183_55 : mm_code 183 55 = some (Instr.iconst 0, 1, 0, 0, 0, []) := rfl
theorem c_183_56 : mm_code 183 56 = some (Instr.istore 5, 2, 0, 0, 0, []) := rfl
theorem c_183_58 : mm_code 183 58 = some (Instr.iconst 0, 1, 0, 0, 0, []) := rfl
theorem c_183_59 : mm_code 183 59 = some (Instr.istore 6, 2, 0, 0, 0, []) := rfl
theorem c_183_61 : mm_code 183 61 = some (Instr.iconst 0, 1, 0, 0, 0, []) := rfl
theorem c_183_62 : mm_code 183 62 = some (Instr.istore 7, 2, 0, 0, 0, []) := rfl
theorem c_183_64 : mm_code 183 64 = some (Instr.iload 7, 2, 0, 0, 0, []) := rfl
theorem c_183_66 : mm_code 183 66 = some (Instr.iload_n 3, 1, 0, 0, 0, []) := rfl
set_option maxRecDepth 100000 in theorem c_183_67 : mm_code 183 67 = some (Instr.if_icmp .ge 97, 3, 0, 164, 0, []) := rfl
set_option maxRecDepth 100000 in theorem c_183_70 : mm_code 183 70 = some (Instr.aload_n 0, 1, 0, 0, 0, []) := rfl
set_option maxRecDepth 100000 in theorem c_183_71 : mm_code 183 71 = some (Instr.iconst 1, 1, 1, 0, 0, []) := rfl
set_option maxRecDepth 100000 in theorem c_183_72 : mm_code 183 72 = some (Instr.aload_n 0, 1, 0, 0, 0, []) := rfl
set_option maxRecDepth 100000 in theorem c_183_73 : mm_code 183 73 = some (Instr.getfield 87, 3, 0, 10, 44, [901]) := rfl
set_option maxRecDepth 100000 in theorem c_183_76 : mm_code 183 76 = some (Instr.iload_n 2, 1, 0, 0, 0, []) := rfl
set_option maxRecDepth 100000 in theorem c_183_77 : mm_code 183 77 = some (Instr.iload 7, 2, 0, 0, 0, []) := rfl
set_option maxRecDepth 100000 in theorem c_183_79 : mm_code 183 79 = some (Instr.iadd, 1, 0, 0, 0, []) := rfl
set_option maxRecDepth 100000 in theorem c_183_80 : mm_code 183 80 = some (Instr.iaload, 1, 0, 0, 0, []) := rfl
set_option maxRecDepth 100000 in theorem c_183_81 : mm_code 183 81 = some (Instr.invokevirtual 178, 3, 10, 155, 2, [1103, 1105, 31, 66, 1106]) := rfl
set_option maxRecDepth 100000 in theorem c_183_84 : mm_code 183 84 = some (Instr.istore 8, 2, 0, 0, 0, []) := rfl
set_option maxRecDepth 100000 in theorem c_183_86 : mm_code 183 86 = some (Instr.iload 5, 2, 0, 0, 0, []) := rfl
set_option maxRecDepth 100000 in theorem c_183_88 : mm_code 183 88 = some (Instr.ifCond .eq 27, 3, 0, 115, 0, []) := rfl
set_option maxRecDepth 100000 in theorem c_183_91 : mm_code 183 91 = some (Instr.iload 8, 2, 0, 0, 0, []) := rfl
set_option maxRecDepth 100000 in theorem c_183_93 : mm_code 183 93 = some (Instr.ifCond .eq 14, 3, 0, 107, 0, []) := rfl
set_option maxRecDepth 100000 in theorem c_183_96 : mm_code 183 96 = some (Instr.iload 8, 2, 0, 0, 0, []) := rfl
set_option maxRecDepth 100000 in theorem c_183_98 : mm_code 183 98 = some (Instr.iconst 4, 1, 4, 0, 0, []) := rfl
set_option maxRecDepth 100000 in theorem c_183_99 : mm_code 183 99 = some (Instr.bipush 10, 2, 10, 0, 0, []) := rfl
set_option maxRecDepth 100000 in theorem c_183_101 : mm_code 183 101 = some (Instr.invokestatic 116, 3, 0, 135, 3, [1022, 1023, 66, 1024]) := rfl
set_option maxRecDepth 100000 in theorem c_183_104 : mm_code 183 104 = some (Instr.ifCond .eq 7, 3, 0, 111, 0, []) := rfl
set_option maxRecDepth 100000 in theorem c_183_107 : mm_code 183 107 = some (Instr.iconst 1, 1, 1, 0, 0, []) := rfl
set_option maxRecDepth 100000 in theorem c_183_108 : mm_code 183 108 = some (Instr.goto 17, 3, 0, 125, 0, []) := rfl
set_option maxRecDepth 100000 in theorem c_183_111 : mm_code 183 111 = some (Instr.iconst 0, 1, 0, 0, 0, []) := rfl
set_option maxRecDepth 100000 in theorem c_183_112 : mm_code 183 112 = some (Instr.goto 13, 3, 0, 125, 0, []) := rfl
set_option maxRecDepth 100000 in theorem c_183_115 : mm_code 183 115 = some (Instr.iload 8, 2, 0, 0, 0, []) := rfl
set_option maxRecDepth 100000 in theorem c_183_117 : mm_code 183 117 = some (Instr.ifCond .eq 7, 3, 0, 124, 0, []) := rfl
set_option maxRecDepth 100000 in theorem c_183_120 : mm_code 183 120 = some (Instr.iconst 1, 1, 1, 0, 0, []) := rfl
set_option maxRecDepth 100000 in theorem c_183_121 : mm_code 183 121 = some (Instr.goto 4, 3, 0, 125, 0, []) := rfl
set_option maxRecDepth 100000 in theorem c_183_124 : mm_code 183 124 = some (Instr.iconst 0, 1, 0, 0, 0, []) := rfl
set_option maxRecDepth 100000 in theorem c_183_125 : mm_code 183 125 = some (Instr.istore 9, 2, 0, 0, 0, []) := rfl
set_option maxRecDepth 100000 in theorem c_183_127 : mm_code 183 127 = some (Instr.iload 9, 2, 0, 0, 0, []) := rfl
set_option maxRecDepth 100000 in theorem c_183_129 : mm_code 183 129 = some (Instr.ifCond .ne 13, 3, 0, 142, 0, []) := rfl
set_option maxRecDepth 100000 in theorem c_183_132 : mm_code 183 132 = some (Instr.aload_n 0, 1, 0, 0, 0, []) := rfl
set_option maxRecDepth 100000 in theorem c_183_133 : mm_code 183 133 = some (Instr.bipush 46, 2, 46, 0, 0, []) := rfl
set_option maxRecDepth 100000 in theorem c_183_135 : mm_code 183 135 = some (Instr.iload_n 1, 1, 0, 0, 0, []) := rfl
set_option maxRecDepth 100000 in theorem c_183_136 : mm_code 183 136 = some (Instr.iload 7, 2, 0, 0, 0, []) := rfl
set_option maxRecDepth 100000 in theorem c_183_138 : mm_code 183 138 = some (Instr.invokevirtual 269, 3, 10, 176, 3, [1193, 1195, 42, 66, 1196]) := rfl
set_option maxRecDepth 100000 in theorem c_183_141 : mm_code 183 141 = some (Instr.ireturn, 1, 1, 0, 0, []) := rfl
set_option maxRecDepth 100000 in theorem c_183_142 : mm_code 183 142 = some (Instr.iload 8, 2, 0, 0, 0, []) := rfl
set_option maxRecDepth 100000 in theorem c_183_144 : mm_code 183 144 = some (Instr.bipush 10, 2, 10, 0, 0, []) := rfl
set_option maxRecDepth 100000 in theorem c_183_146 : mm_code 183 146 = some (Instr.if_icmp .ne 8, 3, 0, 154, 0, []) := rfl
set_option maxRecDepth 100000 in theorem c_183_149 : mm_code 183 149 = some (Instr.iload 6, 2, 0, 0, 0, []) := rfl
set_option maxRecDepth 100000 in theorem c_183_151 : mm_code 183 151 = some (Instr.goto 5, 3, 0, 156, 0, []) := rfl
set_option maxRecDepth 100000 in theorem c_183_154 : mm_code 183 154 = some (Instr.iload 7, 2, 0, 0, 0, []) := rfl
set_option maxRecDepth 100000 in theorem c_183_156 : mm_code 183 156 = some (Instr.istore 6, 2, 0, 0, 0, []) := rfl
set_option maxRecDepth 100000 in theorem c_183_158 : mm_code 183 158 = some (Instr.iinc 7 1, 3, 0, 0, 0, []) := rfl
set_option maxRecDepth 100000 in theorem c_183_161 : mm_code 183 161 = some (Instr.goto (-97), 3, 0, 64, 0, []) := rfl
set_option maxRecDepth 100000 in theorem c_183_164 : mm_code 183 164 = some (Instr.aload_n 0, 1, 0, 0, 0, []) := rfl
set_option maxRecDepth 100000 in theorem c_183_165 : mm_code 183 165 = some (Instr.iconst 1, 1, 1, 0, 0, []) := rfl
set_option maxRecDepth 100000 in theorem c_183_166 : mm_code 183 166 = some (Instr.aload_n 0, 1, 0, 0, 0, []) := rfl
set_option maxRecDepth 100000 in theorem c_183_167 : mm_code 183 167 = some (Instr.getfield 87, 3, 0, 10, 44, [901]) := rfl
set_option maxRecDepth 100000 in theorem c_183_170 : mm_code 183 170 = some (Instr.iload_n 2, 1, 0, 0, 0, []) := rfl
set_option maxRecDepth 100000 in theorem c_183_171 : mm_code 183 171 = some (Instr.iload 6, 2, 0, 0, 0, []) := rfl
set_option maxRecDepth 100000 in theorem c_183_173 : mm_code 183 173 = some (Instr.iadd, 1, 0, 0, 0, []) := rfl
set_option maxRecDepth 100000 in theorem c_183_174 : mm_code 183 174 = some (Instr.iaload, 1, 0, 0, 0, []) := rfl
set_option maxRecDepth 100000 in theorem c_183_175 : mm_code 183 175 = some (Instr.invokevirtual 178, 3, 10, 155, 2, [1103, 1105, 31, 66, 1106]) := rfl
set_option maxRecDepth 100000 in theorem c_183_178 : mm_code 183 178 = some (Instr.istore 7, 2, 0, 0, 0, []) := rfl
set_option maxRecDepth 100000 in theorem c_183_180 : mm_code 183 180 = some (Instr.iload 5, 2, 0, 0, 0, []) := rfl
set_option maxRecDepth 100000 in theorem c_183_182 : mm_code 183 182 = some (Instr.ifCond .eq 22, 3, 0, 204, 0, []) := rfl
set_option maxRecDepth 100000 in theorem c_183_185 : mm_code 183 185 = some (Instr.iload 7, 2, 0, 0, 0, []) := rfl
set_option maxRecDepth 100000 in theorem c_183_187 : mm_code 183 187 = some (Instr.ifCond .eq 9, 3, 0, 196, 0, []) := rfl
set_option maxRecDepth 100000 in theorem c_183_190 : mm_code 183 190 = some (Instr.iload 7, 2, 0, 0, 0, []) := rfl
set_option maxRecDepth 100000 in theorem c_183_192 : mm_code 183 192 = some (Instr.iconst 4, 1, 4, 0, 0, []) := rfl
set_option maxRecDepth 100000 in theorem c_183_193 : mm_code 183 193 = some (Instr.if_icmp .ne 7, 3, 0, 200, 0, []) := rfl
set_option maxRecDepth 100000 in theorem c_183_196 : mm_code 183 196 = some (Instr.iconst 1, 1, 1, 0, 0, []) := rfl
set_option maxRecDepth 100000 in theorem c_183_197 : mm_code 183 197 = some (Instr.goto 14, 3, 0, 211, 0, []) := rfl
set_option maxRecDepth 100000 in theorem c_183_200 : mm_code 183 200 = some (Instr.iconst 0, 1, 0, 0, 0, []) := rfl
set_option maxRecDepth 100000 in theorem c_183_201 : mm_code 183 201 = some (Instr.goto 10, 3, 0, 211, 0, []) := rfl
set_option maxRecDepth 100000 in theorem c_183_204 : mm_code 183 204 = some (Instr.iload 7, 2, 0, 0, 0, []) := rfl
set_option maxRecDepth 100000 in theorem c_183_206 : mm_code 183 206 = some (Instr.iconst 1, 1, 1, 0, 0, []) := rfl
set_option maxRecDepth 100000 in theorem c_183_207 : mm_code 183 207 = some (Instr.iconst 4, 1, 4, 0, 0, []) := rfl
set_option maxRecDepth 100000 in theorem c_183_208 : mm_code 183 208 = some (Instr.invokestatic 116, 3, 0, 135, 3, [1022, 1023, 66, 1024]) := rfl
set_option maxRecDepth 100000 in theorem c_183_211 : mm_code 183 211 = some (Instr.istore 8, 2, 0, 0, 0, []) := rfl
set_option maxRecDepth 100000 in theorem c_183_213 : mm_code 183 213 = some (Instr.iload 8, 2, 0, 0, 0, []) := rfl
set_option maxRecDepth 100000 in theorem c_183_215 : mm_code 183 215 = some (Instr.ifCond .ne 13, 3, 0, 228, 0, []) := rfl
set_option maxRecDepth 100000 in theorem c_183_218 : mm_code 183 218 = some (Instr.aload_n 0, 1, 0, 0, 0, []) := rfl
set_option maxRecDepth 100000 in theorem c_183_219 : mm_code 183 219 = some (Instr.bipush 46, 2, 46, 0, 0, []) := rfl
set_option maxRecDepth 100000 in theorem c_183_221 : mm_code 183 221 = some (Instr.iload_n 1, 1, 0, 0, 0, []) := rfl
set_option maxRecDepth 100000 in theorem c_183_222 : mm_code 183 222 = some (Instr.iload 6, 2, 0, 0, 0, []) := rfl
set_option maxRecDepth 100000 in theorem c_183_224 : mm_code 183 224 = some (Instr.invokevirtual 269, 3, 10, 176, 3, [1193, 1195, 42, 66, 1196]) := rfl
set_option maxRecDepth 100000 in theorem c_183_227 : mm_code 183 227 = some (Instr.ireturn, 1, 1, 0, 0, []) := rfl
set_option maxRecDepth 100000 in theorem c_183_228 : mm_code 183 228 = some (Instr.iconst 0, 1, 0, 0, 0, []) := rfl
set_option maxRecDepth 100000 in theorem c_183_229 : mm_code 183 229 = some (Instr.istore 9, 2, 0, 0, 0, []) := rfl
set_option maxRecDepth 100000 in theorem c_183_231 : mm_code 183 231 = some (Instr.iconst 0, 1, 0, 0, 0, []) := rfl
set_option maxRecDepth 100000 in theorem c_183_232 : mm_code 183 232 = some (Instr.istore 10, 2, 0, 0, 0, []) := rfl
set_option maxRecDepth 100000 in theorem c_183_234 : mm_code 183 234 = some (Instr.iload 10, 2, 0, 0, 0, []) := rfl
set_option maxRecDepth 100000 in theorem c_183_236 : mm_code 183 236 = some (Instr.iload_n 3, 1, 0, 0, 0, []) := rfl
set_option maxRecDepth 100000 in theorem c_183_237 : mm_code 183 237 = some (Instr.if_icmp .ge 71, 3, 0, 308, 0, []) := rfl
set_option maxRecDepth 100000 in theorem c_183_240 : mm_code 183 240 = some (Instr.iload 5, 2, 0, 0, 0, []) := rfl
set_option maxRecDepth 100000 in theorem c_183_242 : mm_code 183 242 = some (Instr.ifCond .ne 66, 3, 0, 308, 0, []) := rfl
set_option maxRecDepth 100000 in theorem c_183_245 : mm_code 183 245 = some (Instr.aload_n 0, 1, 0, 0, 0, []) := rfl
set_option maxRecDepth 100000 in theorem c_183_246 : mm_code 183 246 = some (Instr.iconst 1, 1, 1, 0, 0, []) := rfl
set_option maxRecDepth 100000 in theorem c_183_247 : mm_code 183 247 = some (Instr.aload_n 0, 1, 0, 0, 0, []) := rfl
set_option maxRecDepth 100000 in theorem c_183_248 : mm_code 183 248 = some (Instr.getfield 87, 3, 0, 10, 44, [901]) := rfl
set_option maxRecDepth 100000 in theorem c_183_251 : mm_code 183 251 = some (Instr.iload_n 2, 1, 0, 0, 0, []) := rfl
set_option maxRecDepth 100000 in theorem c_183_252 : mm_code 183 252 = some (Instr.iload 10, 2, 0, 0, 0, []) := rfl
set_option maxRecDepth 100000 in theorem c_183_254 : mm_code 183 254 = some (Instr.iadd, 1, 0, 0, 0, []) := rfl
set_option maxRecDepth 100000 in theorem c_183_255 : mm_code 183 255 = some (Instr.iaload, 1, 0, 0, 0, []) := rfl
set_option maxRecDepth 100000 in theorem c_183_256 : mm_code 183 256 = some (Instr.invokevirtual 178, 3, 10, 155, 2, [1103, 1105, 31, 66, 1106]) := rfl
set_option maxRecDepth 100000 in theorem c_183_259 : mm_code 183 259 = some (Instr.istore 11, 2, 0, 0, 0, []) := rfl
set_option maxRecDepth 100000 in theorem c_183_261 : mm_code 183 261 = some (Instr.iload 11, 2, 0, 0, 0, []) := rfl
set_option maxRecDepth 100000 in theorem c_183_263 : mm_code 183 263 = some (Instr.iconst 4, 1, 4, 0, 0, []) := rfl
set_option maxRecDepth 100000 in theorem c_183_264 : mm_code 183 264 = some (Instr.if_icmp .eq 12, 3, 0, 276, 0, []) := rfl
set_option maxRecDepth 100000 in theorem c_183_267 : mm_code 183 267 = some (Instr.iload 11, 2, 0, 0, 0, []) := rfl
set_option maxRecDepth 100000 in theorem c_183_269 : mm_code 183 269 = some (Instr.iconst 3, 1, 3, 0, 0, []) := rfl
set_option maxRecDepth 100000 in theorem c_183_270 : mm_code 183 270 = some (Instr.if_icmp .eq 6, 3, 0, 276, 0, []) := rfl
set_option maxRecDepth 100000 in theorem c_183_273 : mm_code 183 273 = some (Instr.goto 29, 3, 0, 302, 0, []) := rfl
set_option maxRecDepth 100000 in theorem c_183_276 : mm_code 183 276 = some (Instr.iload 9, 2, 0, 0, 0, []) := rfl
set_option maxRecDepth 100000 in theorem c_183_278 : mm_code 183 278 = some (Instr.ifCond .eq 20, 3, 0, 298, 0, []) := rfl
set_option maxRecDepth 100000 in theorem c_183_281 : mm_code 183 281 = some (Instr.iload 11, 2, 0, 0, 0, []) := rfl
set_option maxRecDepth 100000 in theorem c_183_283 : mm_code 183 283 = some (Instr.iload 9, 2, 0, 0, 0, []) := rfl
set_option maxRecDepth 100000 in theorem c_183_285 : mm_code 183 285 = some (Instr.if_icmp .eq 13, 3, 0, 298, 0, []) := rfl
set_option maxRecDepth 100000 in theorem c_183_288 : mm_code 183 288 = some (Instr.aload_n 0, 1, 0, 0, 0, []) := rfl
set_option maxRecDepth 100000 in theorem c_183_289 : mm_code 183 289 = some (Instr.bipush 46, 2, 46, 0, 0, []) := rfl
set_option maxRecDepth 100000 in theorem c_183_291 : mm_code 183 291 = some (Instr.iload_n 1, 1, 0, 0, 0, []) := rfl
set_option maxRecDepth 100000 in theorem c_183_292 : mm_code 183 292 = some (Instr.iload 10, 2, 0, 0, 0, []) := rfl
set_option maxRecDepth 100000 in theorem c_183_294 : mm_code 183 294 = some (Instr.invokevirtual 269, 3, 10, 176, 3, [1193, 1195, 42, 66, 1196]) := rfl
set_option maxRecDepth 100000 in theorem c_183_297 : mm_code 183 297 = some (Instr.ireturn, 1, 1, 0, 0, []) := rfl
set_option maxRecDepth 100000 in theorem c_183_298 : mm_code 183 298 = some (Instr.iload 11, 2, 0, 0, 0, []) := rfl
set_option maxRecDepth 100000 in theorem c_183_300 : mm_code 183 300 = some (Instr.istore 9, 2, 0, 0, 0, []) := rfl
set_option maxRecDepth 100000 in theorem c_183_302 : mm_code 183 302 = some (Instr.iinc 10 1, 3, 0, 0, 0, []) := rfl
set_option maxRecDepth 100000 in theorem c_183_305 : mm_code 183 305 = some (Instr.goto (-71), 3, 0, 234, 0, []) := rfl
set_option maxRecDepth 100000 in theorem c_183_308 : mm_code 183 308 = some (Instr.iconst 1, 1, 1, 0, 0, []) := rfl
set_option maxRecDepth 100000 in theorem c_183_309 : mm_code 183 309 = some (Instr.ireturn, 1, 1, 0, 0, []) := rfl
theorem c_184_0 : mm_code 184 0 = some (Instr.iconst 0, 1, 0, 0, 0, []) := rfl
theorem c_184_1 : mm_code 184 1 = some (Instr.istore_n 1, 1, 0, 0, 0, []) := rfl
theorem c_184_2 : mm_code 184 2 = some (Instr.iload_n 1, 1, 0, 0, 0, []) := rfl
theorem c_184_3 : mm_code 184 3 = some (Instr.aload_n 0, 1, 0, 0, 0, []) := rfl
theorem c_184_4 : mm_code 184 4 = some (Instr.getfield 272, 3, 0, 10, 43, [900]) := rfl
theorem c_184_7 : mm_code 184 7 = some (Instr.if_icmp .ge 24, 3, 0, 31, 0, []) := rfl
theorem c_184_10 : mm_code 184 10 = some (Instr.iload_n 1, 1, 0, 0, 0, []) := rfl
theorem c_184_11 : mm_code 184 11 = some (Instr.ifCond .le 9, 3, 0, 20, 0, []) := rfl
theorem c_184_14 : mm_code 184 14 = some (Instr.aload_n 0, 1, 0, 0, 0, []) := rfl
theorem c_184_15 : mm_code 184 15 = some (Instr.bipush 46, 2, 46, 0, 0, []) := rfl
theorem c_184_17 : mm_code 184 17 = some (Instr.invokevirtual 287, 3, 10, 185, 1, [1229, 1231, 51, 66, 1232]) := rfl
theorem c_184_20 : mm_code 184 20 = some (Instr.aload_n 0, 1, 0, 0, 0, []) := rfl
theorem c_184_21 : mm_code 184 21 = some (Instr.iload_n 1, 1, 0, 0, 0, []) := rfl
theorem c_184_22 : mm_code 184 22 = some (Instr.invokevirtual 294, 3, 10, 186, 1, [1233, 1235, 52, 66, 1236]) := rfl
theorem c_184_25 : mm_code 184 25 = some (Instr.iinc 1 1, 3, 0, 0, 0, []) := rfl
theorem c_184_28 : mm_code 184 28 = some (Instr.goto (-26), 3, 0, 2, 0, []) := rfl
theorem c_184_31 : mm_code 184 31 = some (Instr.iconst 0, 1, 0, 0, 0, []) := rfl
theorem c_184_32 : mm_code 184 32 = some (Instr.istore_n 1, 1, 0, 0, 0, []) := rfl
theorem c_184_33 : mm_code 184 33 = some (Instr.iload_n 1, 1, 0, 0, 0, []) := rfl
theorem c_184_34 : mm_code 184 34 = some (Instr.aload_n 0, 1, 0, 0, 0, []) := rfl
theorem c_184_35 : mm_code 184 35 = some (Instr.getfield 272, 3, 0, 10, 43, [900]) := rfl
theorem c_184_38 : mm_code 184 38 = some (Instr.if_icmp .ge 52, 3, 0, 90, 0, []) := rfl
theorem c_184_41 : mm_code 184 41 = some (Instr.aload_n 0, 1, 0, 0, 0, []) := rfl
theorem c_184_42 : mm_code 184 42 = some (Instr.getfield 257, 3, 0, 10, 37, [894]) := rfl
theorem c_184_45 : mm_code 184 45 = some (Instr.ifCond .ne 45, 3, 0, 90, 0, []) := rfl
theorem c_184_48 : mm_code 184 48 = some (Instr.aload_n 0, 1, 0, 0, 0, []) := rfl
theorem c_184_49 : mm_code 184 49 = some (Instr.getfield 93, 3, 0, 10, 46, [903]) := rfl
theorem c_184_52 : mm_code 184 52 = some (Instr.iload_n 1, 1, 0, 0, 0, []) := rfl
theorem c_184_53 : mm_code 184 53 = some (Instr.iaload, 1, 0, 0, 0, []) := rfl
theorem c_184_54 : mm_code 184 54 = some (Instr.ifCond .ne 30, 3, 0, 84, 0, []) := rfl
theorem c_184_57 : mm_code 184 57 = some (Instr.iload_n 1, 1, 0, 0, 0, []) := rfl
theorem c_184_58 : mm_code 184 58 = some (Instr.iconst 1, 1, 1, 0, 0, []) := rfl
theorem c_184_59 : mm_code 184 59 = some (Instr.iadd, 1, 0, 0, 0, []) := rfl
theorem c_184_60 : mm_code 184 60 = some (Instr.aload_n 0, 1, 0, 0, 0, []) := rfl
theorem c_184_61 : mm_code 184 61 = some (Instr.getfield 272, 3, 0, 10, 43, [900]) := rfl
theorem c_184_64 : mm_code 184 64 = some (Instr.if_icmp .lt 11, 3, 0, 75, 0, []) := rfl
theorem c_184_67 : mm_code 184 67 = some (Instr.aload_n 0, 1, 0, 0, 0, []) := rfl
theorem c_184_68 : mm_code 184 68 = some (Instr.getfield 272, 3, 0, 10, 43, [900]) := rfl
theorem c_184_71 : mm_code 184 71 = some (Instr.iconst 1, 1, 1, 0, 0, []) := rfl
theorem c_184_72 : mm_code 184 72 = some (Instr.if_icmp .ne 12, 3, 0, 84, 0, []) := rfl
theorem c_184_75 : mm_code 184 75 = some (Instr.aload_n 0, 1, 0, 0, 0, []) := rfl
set_option maxRecDepth 100000 in theorem c_184_76 : mm_code 184 76 = some (Instr.bipush 51, 2, 51, 0, 0, []) := rfl
set_option maxRecDepth 100000 in theorem c_184_78 : mm_code 184 78 = some (Instr.iload_n 1, 1, 0, 0, 0, []) := rfl
set_option maxRecDepth 100000 in theorem c_184_79 : mm_code 184 79 = some (Instr.iconst 0, 1, 0, 0, 0, []) := rfl
set_option maxRecDepth 100000 in theorem c_184_80 : mm_code 184 80 = some (Instr.invokevirtual 269, 3, 10, 176, 3, [1193, 1195, 42, 66, 1196]) := rfl
set_option maxRecDepth 100000 in theorem c_184_83 : mm_code 184 83 = some (Instr.istore_n 2, 1, 0, 0, 0, []) := rfl
set_option maxRecDepth 100000 in theorem c_184_84 : mm_code 184 84 = some (Instr.iinc 1 1, 3, 0, 0, 0, []) := rfl
set_option maxRecDepth 100000 in theorem c_184_87 : mm_code 184 87 = some (Instr.goto (-54), 3, 0, 33, 0, []) := rfl
set_option maxRecDepth 100000 in theorem c_184_90 : mm_code 184 90 = some (Instr.iconst 0, 1, 0, 0, 0, []) := rfl
set_option maxRecDepth 100000 in theorem c_184_91 : mm_code 184 91 = some (Instr.istore_n 1, 1, 0, 0, 0, []) := rfl
set_option maxRecDepth 100000 in theorem c_184_92 : mm_code 184 92 = some (Instr.iload_n 1, 1, 0, 0, 0, []) := rfl
set_option maxRecDepth 100000 in theorem c_184_93 : mm_code 184 93 = some (Instr.aload_n 0, 1, 0, 0, 0, []) := rfl
set_option maxRecDepth 100000 in theorem c_184_94 : mm_code 184 94 = some (Instr.getfield 272, 3, 0, 10, 43, [900]) := rfl
set_option maxRecDepth 100000 in theorem c_184_97 : mm_code 184 97 = some (Instr.if_icmp .ge 37, 3, 0, 134, 0, []) := rfl
set_option maxRecDepth 100000 in theorem c_184_100 : mm_code 184 100 = some (Instr.aload_n 0, 1, 0, 0, 0, []) := rfl
set_option maxRecDepth 100000 in theorem c_184_101 : mm_code 184 101 = some (Instr.getfield 257, 3, 0, 10, 37, [894]) := rfl
set_option maxRecDepth 100000 in theorem c_184_104 : mm_code 184 104 = some (Instr.ifCond .ne 30, 3, 0, 134, 0, []) := rfl
set_option maxRecDepth 100000 in theorem c_184_107 : mm_code 184 107 = some (Instr.aload_n 0, 1, 0, 0, 0, []) := rfl
set_option maxRecDepth 100000 in theorem c_184_108 : mm_code 184 108 = some (Instr.getfield 105, 3, 0, 10, 52, [909]) := rfl
set_option maxRecDepth 100000 in theorem c_184_111 : mm_code 184 111 = some (Instr.iload_n 1, 1, 0, 0, 0, []) := rfl
set_option maxRecDepth 100000 in theorem c_184_112 : mm_code 184 112 = some (Instr.iaload, 1, 0, 0, 0, []) := rfl
set_option maxRecDepth 100000 in theorem c_184_113 : mm_code 184 113 = some (Instr.bipush 63, 2, 63, 0, 0, []) := rfl
set_option maxRecDepth 100000 in theorem c_184_115 : mm_code 184 115 = some (Instr.if_icmp .le 13, 3, 0, 128, 0, []) := rfl
set_option maxRecDepth 100000 in theorem c_184_118 : mm_code 184 118 = some (Instr.aload_n 0, 1, 0, 0, 0, []) := rfl
set_option maxRecDepth 100000 in theorem c_184_119 : mm_code 184 119 = some (Instr.bipush 52, 2, 52, 0, 0, []) := rfl
set_option maxRecDepth 100000 in theorem c_184_121 : mm_code 184 121 = some (Instr.iload_n 1, 1, 0, 0, 0, []) := rfl
set_option maxRecDepth 100000 in theorem c_184_122 : mm_code 184 122 = some (Instr.bipush 63, 2, 63, 0, 0, []) := rfl
set_option maxRecDepth 100000 in theorem c_184_124 : mm_code 184 124 = some (Instr.invokevirtual 269, 3, 10, 176, 3, [1193, 1195, 42, 66, 1196]) := rfl
set_option maxRecDepth 100000 in theorem c_184_127 : mm_code 184 127 = some (Instr.istore_n 2, 1, 0, 0, 0, []) := rfl
set_option maxRecDepth 100000 in theorem c_184_128 : mm_code 184 128 = some (Instr.iinc 1 1, 3, 0, 0, 0, []) := rfl
set_option maxRecDepth 100000 in theorem c_184_131 : mm_code 184 131 = some (Instr.goto (-39), 3, 0, 92, 0, []) := rfl
set_option maxRecDepth 100000 in theorem c_184_134 : mm_code 184 134 = some (Instr.aload_n 0, 1, 0, 0, 0, []) := rfl
set_option maxRecDepth 100000 in theorem c_184_135 : mm_code 184 135 = some (Instr.getfield 284, 3, 0, 10, 50, [907]) := rfl
set_option maxRecDepth 100000 in theorem c_184_138 : mm_code 184 138 = some (Instr.aload_n 0, 1, 0, 0, 0, []) := rfl
set_option maxRecDepth 100000 in theorem c_184_139 : mm_code 184 139 = some (Instr.getfield 272, 3, 0, 10, 43, [900]) := rfl
set_option maxRecDepth 100000 in theorem c_184_142 : mm_code 184 142 = some (Instr.iconst 1, 1, 1, 0, 0, []) := rfl
set_option maxRecDepth 100000 in theorem c_184_143 : mm_code 184 143 = some (Instr.if_icmp .le 21, 3, 0, 164, 0, []) := rfl
set_option maxRecDepth 100000 in theorem c_184_146 : mm_code 184 146 = some (Instr.aload_n 0, 1, 0, 0, 0, []) := rfl
set_option maxRecDepth 100000 in theorem c_184_147 : mm_code 184 147 = some (Instr.getfield 93, 3, 0, 10, 46, [903]) := rfl
set_option maxRecDepth 100000 in theorem c_184_150 : mm_code 184 150 = some (Instr.aload_n 0, 1, 0, 0, 0, []) := rfl
set_option maxRecDepth 100000 in theorem c_184_151 : mm_code 184 151 = some (Instr.getfield 272, 3, 0, 10, 43, [900]) := rfl
set_option maxRecDepth 100000 in theorem c_184_154 : mm_code 184 154 = some (Instr.iconst 1, 1, 1, 0, 0, []) := rfl
set_option maxRecDepth 100000 in theorem c_184_155 : mm_code 184 155 = some (Instr.isub, 1, 0, 0, 0, []) := rfl
set_option maxRecDepth 100000 in theorem c_184_156 : mm_code 184 156 = some (Instr.iaload, 1, 0, 0, 0, []) := rfl
set_option maxRecDepth 100000 in theorem c_184_157 : mm_code 184 157 = some (Instr.ifCond .ne 7, 3, 0, 164, 0, []) := rfl
set_option maxRecDepth 100000 in theorem c_184_160 : mm_code 184 160 = some (Instr.iconst 1, 1, 1, 0, 0, []) := rfl
set_option maxRecDepth 100000 in theorem c_184_161 : mm_code 184 161 = some (Instr.goto 4, 3, 0, 165, 0, []) := rfl
set_option maxRecDepth 100000 in theorem c_184_164 : mm_code 184 164 = some (Instr.iconst 0, 1, 0, 0, 0, []) := rfl
set_option maxRecDepth 100000 in theorem c_184_165 : mm_code 184 165 = some (Instr.isub, 1, 0, 0, 0, []) := rfl
set_option maxRecDepth 100000 in theorem c_184_166 : mm_code 184 166 = some (Instr.istore_n 1, 1, 0, 0, 0, []) := rfl
set_option maxRecDepth 100000 in theorem c_184_167 : mm_code 184 167 = some (Instr.iload_n 1, 1, 0, 0, 0, []) := rfl
set_option maxRecDepth 100000 in theorem c_184_168 : mm_code 184 168 = some (Instr.sipush 253, 3, 253, 0, 0, []) := rfl
set_option maxRecDepth 100000 in theorem c_184_171 : mm_code 184 171 = some (Instr.if_icmp .gt 7, 3, 0, 178, 0, []) := rfl
set_option maxRecDepth 100000 in theorem c_184_174 : mm_code 184 174 = some (Instr.iload_n 1, 1, 0, 0, 0, []) := rfl
set_option maxRecDepth 100000 in theorem c_184_175 : mm_code 184 175 = some (Instr.ifCond .ne 17, 3, 0, 192, 0, []) := rfl
set_option maxRecDepth 100000 in theorem c_184_178 : mm_code 184 178 = some (Instr.aload_n 0, 1, 0, 0, 0, []) := rfl
set_option maxRecDepth 100000 in theorem c_184_179 : mm_code 184 179 = some (Instr.bipush 53, 2, 53, 0, 0, []) := rfl
set_option maxRecDepth 100000 in theorem c_184_181 : mm_code 184 181 = some (Instr.aload_n 0, 1, 0, 0, 0, []) := rfl
set_option maxRecDepth 100000 in theorem c_184_182 : mm_code 184 182 = some (Instr.getfield 272, 3, 0, 10, 43, [900]) := rfl
set_option maxRecDepth 100000 in theorem c_184_185 : mm_code 184 185 = some (Instr.iconst 1, 1, 1, 0, 0, []) := rfl
set_option maxRecDepth 100000 in theorem c_184_186 : mm_code 184 186 = some (Instr.isub, 1, 0, 0, 0, []) := rfl
set_option maxRecDepth 100000 in theorem c_184_187 : mm_code 184 187 = some (Instr.iconst 0, 1, 0, 0, 0, []) := rfl
set_option maxRecDepth 100000 in theorem c_184_188 : mm_code 184 188 = some (Instr.invokevirtual 269, 3, 10, 176, 3, [1193, 1195, 42, 66, 1196]) := rfl
set_option maxRecDepth 100000 in theorem c_184_191 : mm_code 184 191 = some (Instr.istore_n 2, 1, 0, 0, 0, []) := rfl
set_option maxRecDepth 100000 in theorem c_184_192 : mm_code 184 192 = some (Instr.return_, 1, 0, 0, 0, []) := rfl
theorem c_185_0 : mm_code 185 0 = some (Instr.aload_n 0, 1, 0, 0, 0, []) := rfl
theorem c_185_1 : mm_code 185 1 = some (Instr.getfield 99, 3, 0, 10, 49, [906]) := rfl
theorem c_185_4 : mm_code 185 4 = some (Instr.aload_n 0, 1, 0, 0, 0, []) := rfl
theorem c_185_5 : mm_code 185 5 = some (Instr.getfield 284, 3, 0, 10, 50, [907]) := rfl
theorem c_185_8 : mm_code 185 8 = some (Instr.iload_n 1, 1, 0, 0, 0, []) := rfl
theorem c_185_9 : mm_code 185 9 = some (Instr.i2b, 1, 0, 0, 0, []) := rfl
theorem c_185_10 : mm_code 185 10 = some (Instr.bastore, 1, 0, 0, 0, []) := rfl
theorem c_185_11 : mm_code 185 11 = some (Instr.aload_n 0, 1, 0, 0, 0, []) := rfl
theorem c_185_12 : mm_code 185 12 = some (Instr.dup, 1, 0, 0, 0, []) := rfl
theorem c_185_13 : mm_code 185 13 = some (Instr.getfield 284, 3, 0, 10, 50, [907]) := rfl
theorem c_185_16 : mm_code 185 16 = some (Instr.iconst 1, 1, 1, 0, 0, []) := rfl
theorem c_185_17 : mm_code 185 17 = some (Instr.iadd, 1, 0, 0, 0, []) := rfl
theorem c_185_18 : mm_code 185 18 = some (Instr.putfield 284, 3, 1, 10, 50, [907]) := rfl
theorem c_185_21 : mm_code 185 21 = some (Instr.return_, 1, 0, 0, 0, []) := rfl
theorem c_186_0 : mm_code 186 0 = some (Instr.iconst 0, 1, 0, 0, 0, []) := rfl
theorem c_186_1 : mm_code 186 1 = some (Instr.istore_n 2, 1, 0, 0, 0, []) := rfl
theorem c_186_2 : mm_code 186 2 = some (Instr.iconst 0, 1, 0, 0, 0, []) := rfl
theorem c_186_3 : mm_code 186 3 = some (Instr.istore_n 3, 1, 0, 0, 0, []) := rfl
theorem c_186_4 : mm_code 186 4 = some (Instr.iload_n 3, 1, 0, 0, 0, []) := rfl
theorem c_186_5 : mm_code 186 5 = some (Instr.aload_n 0, 1, 0, 0, 0, []) := rfl
theorem c_186_6 : mm_code 186 6 = some (Instr.getfield 93, 3, 0, 10, 46, [903]) := rfl
theorem c_186_9 : mm_code 186 9 = some (Instr.iload_n 1, 1, 0, 0, 0, []) := rfl
theorem c_186_10 : mm_code 186 10 = some (Instr.iaload, 1, 0, 0, 0, []) := rfl
theorem c_186_11 : mm_code 186 11 = some (Instr.if_icmp .ge 37, 3, 0, 48, 0, []) := rfl
theorem c_186_14 : mm_code 186 14 = some (Instr.iload_n 2, 1, 0, 0, 0, []) := rfl
theorem c_186_15 : mm_code 186 15 = some (Instr.ifCond .ne 21, 3, 0, 36, 0, []) := rfl
theorem c_186_18 : mm_code 186 18 = some (Instr.aload_n 0, 1, 0, 0, 0, []) := rfl
theorem c_186_19 : mm_code 186 19 = some (Instr.getfield 87, 3, 0, 10, 44, [901]) := rfl
theorem c_186_22 : mm_code 186 22 = some (Instr.aload_n 0, 1, 0, 0, 0, []) := rfl
theorem c_186_23 : mm_code 186 23 = some (Instr.getfield 90, 3, 0, 10, 45, [902]) := rfl
theorem c_186_26 : mm_code 186 26 = some (Instr.iload_n 1, 1, 0, 0, 0, []) := rfl
theorem c_186_27 : mm_code 186 27 = some (Instr.iaload, 1, 0, 0, 0, []) := rfl
theorem c_186_28 : mm_code 186 28 = some (Instr.iload_n 3, 1, 0, 0, 0, []) := rfl
theorem c_186_29 : mm_code 186 29 = some (Instr.iadd, 1, 0, 0, 0, []) := rfl
theorem c_186_30 : mm_code 186 30 = some (Instr.iaload, 1, 0, 0, 0, []) := rfl
theorem c_186_31 : mm_code 186 31 = some (Instr.bipush 127, 2, 127, 0, 0, []) := rfl
theorem c_186_33 : mm_code 186 33 = some (Instr.if_icmp .le 7, 3, 0, 40, 0, []) := rfl
theorem c_186_36 : mm_code 186 36 = some (Instr.iconst 1, 1, 1, 0, 0, []) := rfl
theorem c_186_37 : mm_code 186 37 = some (Instr.goto 4, 3, 0, 41, 0, []) := rfl
theorem c_186_40 : mm_code 186 40 = some (Instr.iconst 0, 1, 0, 0, 0, []) := rfl
theorem c_186_41 : mm_code 186 41 = some (Instr.istore_n 2, 1, 0, 0, 0, []) := rfl
theorem c_186_42 : mm_code 186 42 = some (Instr.iinc 3 1, 3, 0, 0, 0, []) := rfl
theorem c_186_45 : mm_code 186 45 = some (Instr.goto (-41), 3, 0, 4, 0, []) := rfl
theorem c_186_48 : mm_code 186 48 = some (Instr.aload_n 0, 1, 0, 0, 0, []) := rfl
theorem c_186_49 : mm_code 186 49 = some (Instr.getfield 284, 3, 0, 10, 50, [907]) := rfl
theorem c_186_52 : mm_code 186 52 = some (Instr.istore_n 3, 1, 0, 0, 0, []) := rfl
theorem c_186_53 : mm_code 186 53 = some (Instr.iload_n 2, 1, 0, 0, 0, []) := rfl
theorem c_186_54 : mm_code 186 54 = some (Instr.ifCond .ne 44, 3, 0, 98, 0, []) := rfl
theorem c_186_57 : mm_code 186 57 = some (Instr.iconst 0, 1, 0, 0, 0, []) := rfl
theorem c_186_58 : mm_code 186 58 = some (Instr.istore 4, 2, 0, 0, 0, []) := rfl
theorem c_186_60 : mm_code 186 60 = some (Instr.iload 4, 2, 0, 0, 0, []) := rfl
theorem c_186_62 : mm_code 186 62 = some (Instr.aload_n 0, 1, 0, 0, 0, []) := rfl
theorem c_186_63 : mm_code 186 63 = some (Instr.getfield 93, 3, 0, 10, 46, [903]) := rfl
theorem c_186_66 : mm_code 186 66 = some (Instr.iload_n 1, 1, 0, 0, 0, []) := rfl
theorem c_186_67 : mm_code 186 67 = some (Instr.iaload, 1, 0, 0, 0, []) := rfl
set_option maxRecDepth 100000 in theorem c_186_68 : mm_code 186 68 = some (Instr.if_icmp .ge 27, 3, 0, 95, 0, []) := rfl
set_option maxRecDepth 100000 in theorem c_186_71 : mm_code 186 71 = some (Instr.aload_n 0, 1, 0, 0, 0, []) := rfl
set_option maxRecDepth 100000 in theorem c_186_72 : mm_code 186 72 = some (Instr.aload_n 0, 1, 0, 0, 0, []) := rfl
set_option maxRecDepth 100000 in theorem c_186_73 : mm_code 186 73 = some (Instr.getfield 87, 3, 0, 10, 44, [901]) := rfl
set_option maxRecDepth 100000 in theorem c_186_76 : mm_code 186 76 = some (Instr.aload_n 0, 1, 0, 0, 0, []) := rfl
set_option maxRecDepth 100000 in theorem c_186_77 : mm_code 186 77 = some (Instr.getfield 90, 3, 0, 10, 45, [902]) := rfl
set_option maxRecDepth 100000 in theorem c_186_80 : mm_code 186 80 = some (Instr.iload_n 1, 1, 0, 0, 0, []) := rfl
set_option maxRecDepth 100000 in theorem c_186_81 : mm_code 186 81 = some (Instr.iaload, 1, 0, 0, 0, []) := rfl
set_option maxRecDepth 100000 in theorem c_186_82 : mm_code 186 82 = some (Instr.iload 4, 2, 0, 0, 0, []) := rfl
set_option maxRecDepth 100000 in theorem c_186_84 : mm_code 186 84 = some (Instr.iadd, 1, 0, 0, 0, []) := rfl
set_option maxRecDepth 100000 in theorem c_186_85 : mm_code 186 85 = some (Instr.iaload, 1, 0, 0, 0, []) := rfl
set_option maxRecDepth 100000 in theorem c_186_86 : mm_code 186 86 = some (Instr.invokevirtual 287, 3, 10, 185, 1, [1229, 1231, 51, 66, 1232]) := rfl
set_option maxRecDepth 100000 in theorem c_186_89 : mm_code 186 89 = some (Instr.iinc 4 1, 3, 0, 0, 0, []) := rfl
set_option maxRecDepth 100000 in theorem c_186_92 : mm_code 186 92 = some (Instr.goto (-32), 3, 0, 60, 0, []) := rfl
set_option maxRecDepth 100000 in theorem c_186_95 : mm_code 186 95 = some (Instr.goto 92, 3, 0, 187, 0, []) := rfl
set_option maxRecDepth 100000 in theorem c_186_98 : mm_code 186 98 = some (Instr.aload_n 0, 1, 0, 0, 0, []) := rfl
set_option maxRecDepth 100000 in theorem c_186_99 : mm_code 186 99 = some (Instr.aload_n 0, 1, 0, 0, 0, []) := rfl
set_option maxRecDepth 100000 in theorem c_186_100 : mm_code 186 100 = some (Instr.getfield 87, 3, 0, 10, 44, [901]) := rfl
set_option maxRecDepth 100000 in theorem c_186_103 : mm_code 186 103 = some (Instr.aload_n 0, 1, 0, 0, 0, []) := rfl
set_option maxRecDepth 100000 in theorem c_186_104 : mm_code 186 104 = some (Instr.getfield 90, 3, 0, 10, 45, [902]) := rfl
set_option maxRecDepth 100000 in theorem c_186_107 : mm_code 186 107 = some (Instr.iload_n 1, 1, 0, 0, 0, []) := rfl
set_option maxRecDepth 100000 in theorem c_186_108 : mm_code 186 108 = some (Instr.iaload, 1, 0, 0, 0, []) := rfl
set_option maxRecDepth 100000 in theorem c_186_109 : mm_code 186 109 = some (Instr.aload_n 0, 1, 0, 0, 0, []) := rfl
set_option maxRecDepth 100000 in theorem c_186_110 : mm_code 186 110 = some (Instr.getfield 93, 3, 0, 10, 46, [903]) := rfl
set_option maxRecDepth 100000 in theorem c_186_113 : mm_code 186 113 = some (Instr.iload_n 1, 1, 0, 0, 0, []) := rfl
set_option maxRecDepth 100000 in theorem c_186_114 : mm_code 186 114 = some (Instr.iaload, 1, 0, 0, 0, []) := rfl
set_option maxRecDepth 100000 in theorem c_186_115 : mm_code 186 115 = some (Instr.invokevirtual 241, 3, 10, 165, 3, [1143, 1145, 37, 66, 1146]) := rfl
set_option maxRecDepth 100000 in theorem c_186_118 : mm_code 186 118 = some (Instr.ifCond .ne 16, 3, 0, 134, 0, []) := rfl
set_option maxRecDepth 100000 in theorem c_186_121 : mm_code 186 121 = some (Instr.aload_n 0, 1, 0, 0, 0, []) := rfl
set_option maxRecDepth 100000 in theorem c_186_122 : mm_code 186 122 = some (Instr.bipush 50, 2, 50, 0, 0, []) := rfl
set_option maxRecDepth 100000 in theorem c_186_124 : mm_code 186 124 = some (Instr.iload_n 1, 1, 0, 0, 0, []) := rfl
set_option maxRecDepth 100000 in theorem c_186_125 : mm_code 186 125 = some (Instr.iconst 0, 1, 0, 0, 0, []) := rfl
set_option maxRecDepth 100000 in theorem c_186_126 : mm_code 186 126 = some (Instr.invokevirtual 269, 3, 10, 176, 3, [1193, 1195, 42, 66, 1196]) := rfl
set_option maxRecDepth 100000 in theorem c_186_129 : mm_code 186 129 = some (Instr.istore 4, 2, 0, 0, 0, []) := rfl
set_option maxRecDepth 100000 in theorem c_186_131 : mm_code 186 131 = some (Instr.goto 56, 3, 0, 187, 0, []) := rfl
set_option maxRecDepth 100000 in theorem c_186_134 : mm_code 186 134 = some (Instr.aload_n 0, 1, 0, 0, 0, []) := rfl
set_option maxRecDepth 100000 in theorem c_186_135 : mm_code 186 135 = some (Instr.bipush 120, 2, 120, 0, 0, []) := rfl
set_option maxRecDepth 100000 in theorem c_186_137 : mm_code 186 137 = some (Instr.invokevirtual 287, 3, 10, 185, 1, [1229, 1231, 51, 66, 1232]) := rfl
set_option maxRecDepth 100000 in theorem c_186_140 : mm_code 186 140 = some (Instr.aload_n 0, 1, 0, 0, 0, []) := rfl
set_option maxRecDepth 100000 in theorem c_186_141 : mm_code 186 141 = some (Instr.bipush 110, 2, 110, 0, 0, []) := rfl
set_option maxRecDepth 100000 in theorem c_186_143 : mm_code 186 143 = some (Instr.invokevirtual 287, 3, 10, 185, 1, [1229, 1231, 51, 66, 1232]) := rfl
set_option maxRecDepth 100000 in theorem c_186_146 : mm_code 186 146 = some (Instr.aload_n 0, 1, 0, 0, 0, []) := rfl
set_option maxRecDepth 100000 in theorem c_186_147 : mm_code 186 147 = some (Instr.bipush 45, 2, 45, 0, 0, []) := rfl
set_option maxRecDepth 100000 in theorem c_186_149 : mm_code 186 149 = some (Instr.invokevirtual 287, 3, 10, 185, 1, [1229, 1231, 51, 66, 1232]) := rfl
set_option maxRecDepth 100000 in theorem c_186_152 : mm_code 186 152 = some (Instr.aload_n 0, 1, 0, 0, 0, []) := rfl
set_option maxRecDepth 100000 in theorem c_186_153 : mm_code 186 153 = some (Instr.bipush 45, 2, 45, 0, 0, []) := rfl
set_option maxRecDepth 100000 in theorem c_186_155 : mm_code 186 155 = some (Instr.invokevirtual 287, 3, 10, 185, 1, [1229, 1231, 51, 66, 1232]) := rfl
set_option maxRecDepth 100000 in theorem c_186_158 : mm_code 186 158 = some (Instr.iconst 0, 1, 0, 0, 0, []) := rfl
set_option maxRecDepth 100000 in theorem c_186_159 : mm_code 186 159 = some (Instr.istore 4, 2, 0, 0, 0, []) := rfl
set_option maxRecDepth 100000 in theorem c_186_161 : mm_code 186 161 = some (Instr.iload 4, 2, 0, 0, 0, []) := rfl
set_option maxRecDepth 100000 in theorem c_186_163 : mm_code 186 163 = some (Instr.aload_n 0, 1, 0, 0, 0, []) := rfl
set_option maxRecDepth 100000 in theorem c_186_164 : mm_code 186 164 = some (Instr.getfield 217, 3, 0, 10, 34, [891]) := rfl
set_option maxRecDepth 100000 in theorem c_186_167 : mm_code 186 167 = some (Instr.if_icmp .ge 20, 3, 0, 187, 0, []) := rfl
set_option maxRecDepth 100000 in theorem c_186_170 : mm_code 186 170 = some (Instr.aload_n 0, 1, 0, 0, 0, []) := rfl
set_option maxRecDepth 100000 in theorem c_186_171 : mm_code 186 171 = some (Instr.aload_n 0, 1, 0, 0, 0, []) := rfl
set_option maxRecDepth 100000 in theorem c_186_172 : mm_code 186 172 = some (Instr.getfield 78, 3, 0, 10, 33, [890]) := rfl
set_option maxRecDepth 100000 in theorem c_186_175 : mm_code 186 175 = some (Instr.iload 4, 2, 0, 0, 0, []) := rfl
set_option maxRecDepth 100000 in theorem c_186_177 : mm_code 186 177 = some (Instr.iaload, 1, 0, 0, 0, []) := rfl
set_option maxRecDepth 100000 in theorem c_186_178 : mm_code 186 178 = some (Instr.invokevirtual 287, 3, 10, 185, 1, [1229, 1231, 51, 66, 1232]) := rfl
set_option maxRecDepth 100000 in theorem c_186_181 : mm_code 186 181 = some (Instr.iinc 4 1, 3, 0, 0, 0, []) := rfl
set_option maxRecDepth 100000 in theorem c_186_184 : mm_code 186 184 = some (Instr.goto (-23), 3, 0, 161, 0, []) := rfl
set_option maxRecDepth 100000 in theorem c_186_187 : mm_code 186 187 = some (Instr.aload_n 0, 1, 0, 0, 0, []) := rfl
set_option maxRecDepth 100000 in theorem c_186_188 : mm_code 186 188 = some (Instr.getfield 105, 3, 0, 10, 52, [909]) := rfl
set_option maxRecDepth 100000 in theorem c_186_191 : mm_code 186 191 = some (Instr.iload_n 1, 1, 0, 0, 0, []) := rfl
set_option maxRecDepth 100000 in theorem c_186_192 : mm_code 186 192 = some (Instr.aload_n 0, 1, 0, 0, 0, []) := rfl
set_option maxRecDepth 100000 in theorem c_186_193 : mm_code 186 193 = some (Instr.getfield 284, 3, 0, 10, 50, [907]) := rfl
set_option maxRecDepth 100000 in theorem c_186_196 : mm_code 186 196 = some (Instr.iload_n 3, 1, 0, 0, 0, []) := rfl
set_option maxRecDepth 100000 in theorem c_186_197 : mm_code 186 197 = some (Instr.isub, 1, 0, 0, 0, []) := rfl
set_option maxRecDepth 100000 in theorem c_186_198 : mm_code 186 198 = some (Instr.iastore, 1, 0, 0, 0, []) := rfl
set_option maxRecDepth 100000 in theorem c_186_199 : mm_code 186 199 = some (Instr.return_, 1, 0, 0, 0, []) := rfl
theorem c_187_0 : mm_code 187 0 = some (Instr.iconst 0, 1, 0, 0, 0, []) := rfl
theorem c_187_1 : mm_code 187 1 = some (Instr.istore_n 1, 1, 0, 0, 0, []) := rfl
theorem c_187_2 : mm_code 187 2 = some (Instr.iload_n 1, 1, 0, 0, 0, []) := rfl
theorem c_187_3 : mm_code 187 3 = some (Instr.aload_n 0, 1, 0, 0, 0, []) := rfl
theorem c_187_4 : mm_code 187 4 = some (Instr.getfield 272, 3, 0, 10, 43, [900]) := rfl
theorem c_187_7 : mm_code 187 7 = some (Instr.if_icmp .ge 54, 3, 0, 61, 0, []) := rfl
theorem c_187_10 : mm_code 187 10 = some (Instr.iload_n 1, 1, 0, 0, 0, []) := rfl
theorem c_187_11 : mm_code 187 11 = some (Instr.ifCond .le 9, 3, 0, 20, 0, []) := rfl
theorem c_187_14 : mm_code 187 14 = some (Instr.aload_n 0, 1, 0, 0, 0, []) := rfl
theorem c_187_15 : mm_code 187 15 = some (Instr.bipush 46, 2, 46, 0, 0, []) := rfl
theorem c_187_17 : mm_code 187 17 = some (Instr.invokevirtual 287, 3, 10, 185, 1, [1229, 1231, 51, 66, 1232]) := rfl
theorem c_187_20 : mm_code 187 20 = some (Instr.iconst 0, 1, 0, 0, 0, []) := rfl
theorem c_187_21 : mm_code 187 21 = some (Instr.istore_n 2, 1, 0, 0, 0, []) := rfl
theorem c_187_22 : mm_code 187 22 = some (Instr.iload_n 2, 1, 0, 0, 0, []) := rfl
theorem c_187_23 : mm_code 187 23 = some (Instr.aload_n 0, 1, 0, 0, 0, []) := rfl
theorem c_187_24 : mm_code 187 24 = some (Instr.getfield 93, 3, 0, 10, 46, [903]) := rfl
theorem c_187_27 : mm_code 187 27 = some (Instr.iload_n 1, 1, 0, 0, 0, []) := rfl
theorem c_187_28 : mm_code 187 28 = some (Instr.iaload, 1, 0, 0, 0, []) := rfl
theorem c_187_29 : mm_code 187 29 = some (Instr.if_icmp .ge 26, 3, 0, 55, 0, []) := rfl
theorem c_187_32 : mm_code 187 32 = some (Instr.aload_n 0, 1, 0, 0, 0, []) := rfl
theorem c_187_33 : mm_code 187 33 = some (Instr.aload_n 0, 1, 0, 0, 0, []) := rfl
theorem c_187_34 : mm_code 187 34 = some (Instr.getfield 87, 3, 0, 10, 44, [901]) := rfl
theorem c_187_37 : mm_code 187 37 = some (Instr.aload_n 0, 1, 0, 0, 0, []) := rfl
theorem c_187_38 : mm_code 187 38 = some (Instr.getfield 90, 3, 0, 10, 45, [902]) := rfl
theorem c_187_41 : mm_code 187 41 = some (Instr.iload_n 1, 1, 0, 0, 0, []) := rfl
theorem c_187_42 : mm_code 187 42 = some (Instr.iaload, 1, 0, 0, 0, []) := rfl
theorem c_187_43 : mm_code 187 43 = some (Instr.iload_n 2, 1, 0, 0, 0, []) := rfl
theorem c_187_44 : mm_code 187 44 = some (Instr.iadd, 1, 0, 0, 0, []) := rfl
theorem c_187_45 : mm_code 187 45 = some (Instr.iaload, 1, 0, 0, 0, []) := rfl
theorem c_187_46 : mm_code 187 46 = some (Instr.invokevirtual 291, 3, 10, 188, 1, [1241, 1243, 54, 66, 1244]) := rfl
theorem c_187_49 : mm_code 187 49 = some (Instr.iinc 2 1, 3, 0, 0, 0, []) := rfl
theorem c_187_52 : mm_code 187 52 = some (Instr.goto (-30), 3, 0, 22, 0, []) := rfl
theorem c_187_55 : mm_code 187 55 = some (Instr.iinc 1 1, 3, 0, 0, 0, []) := rfl
theorem c_187_58 : mm_code 187 58 = some (Instr.goto (-56), 3, 0, 2, 0, []) := rfl
theorem c_187_61 : mm_code 187 61 = some (Instr.return_, 1, 0, 0, 0, []) := rfl
theorem c_188_0 : mm_code 188 0 = some (Instr.iload_n 1, 1, 0, 0, 0, []) := rfl
theorem c_188_1 : mm_code 188 1 = some (Instr.sipush 128, 3, 128, 0, 0, []) := rfl
theorem c_188_4 : mm_code 188 4 = some (Instr.if_icmp .ge 11, 3, 0, 15, 0, []) := rfl
theorem c_188_7 : mm_code 188 7 = some (Instr.aload_n 0, 1, 0, 0, 0, []) := rfl
theorem c_188_8 : mm_code 188 8 = some (Instr.iload_n 1, 1, 0, 0, 0, []) := rfl
theorem c_188_9 : mm_code 188 9 = some (Instr.invokevirtual 287, 3, 10, 185, 1, [1229, 1231, 51, 66, 1232]) := rfl
theorem c_188_12 : mm_code 188 12 = some (Instr.goto 140, 3, 0, 152, 0, []) := rfl
theorem c_188_15 : mm_code 188 15 = some (Instr.iload_n 1, 1, 0, 0, 0, []) := rfl
theorem c_188_16 : mm_code 188 16 = some (Instr.sipush 2048, 3, 2048, 0, 0, []) := rfl
theorem c_188_19 : mm_code 188 19 = some (Instr.if_icmp .ge 30, 3, 0, 49, 0, []) := rfl
theorem c_188_22 : mm_code 188 22 = some (Instr.aload_n 0, 1, 0, 0, 0, []) := rfl
theorem c_188_23 : mm_code 188 23 = some (Instr.sipush 192, 3, 192, 0, 0, []) := rfl
theorem c_188_26 : mm_code 188 26 = some (Instr.iload_n 1, 1, 0, 0, 0, []) := rfl
theorem c_188_27 : mm_code 188 27 = some (Instr.bipush 6, 2, 6, 0, 0, []) := rfl
theorem c_188_29 : mm_code 188 29 = some (Instr.ishr, 1, 0, 0, 0, []) := rfl
theorem c_188_30 : mm_code 188 30 = some (Instr.ior, 1, 0, 0, 0, []) := rfl
theorem c_188_31 : mm_code 188 31 = some (Instr.invokevirtual 287, 3, 10, 185, 1, [1229, 1231, 51, 66, 1232]) := rfl
theorem c_188_34 : mm_code 188 34 = some (Instr.aload_n 0, 1, 0, 0, 0, []) := rfl
theorem c_188_35 : mm_code 188 35 = some (Instr.sipush 128, 3, 128, 0, 0, []) := rfl
theorem c_188_38 : mm_code 188 38 = some (Instr.iload_n 1, 1, 0, 0, 0, []) := rfl
theorem c_188_39 : mm_code 188 39 = some (Instr.bipush 63, 2, 63, 0, 0, []) := rfl
theorem c_188_41 : mm_code 188 41 = some (Instr.iand, 1, 0, 0, 0, []) := rfl
theorem c_188_42 : mm_code 188 42 = some (Instr.ior, 1, 0, 0, 0, []) := rfl
theorem c_188_43 : mm_code 188 43 = some (Instr.invokevirtual 287, 3, 10, 185, 1, [1229, 1231, 51, 66, 1232]) := rfl
theorem c_188_46 : mm_code 188 46 = some (Instr.goto 106, 3, 0, 152, 0, []) := rfl
theorem c_188_49 : mm_code 188 49 = some (Instr.iload_n 1, 1, 0, 0, 0, []) := rfl
theorem c_188_50 : mm_code 188 50 = some (Instr.ldc_w 290, 3, 65536, 0, 0, [1245]) := rfl
theorem c_188_53 : mm_code 188 53 = some (Instr.if_icmp .ge 45, 3, 0, 98, 0, []) := rfl
theorem c_188_56 : mm_code 188 56 = some (Instr.aload_n 0, 1, 0, 0, 0, []) := rfl
theorem c_188_57 : mm_code 188 57 = some (Instr.sipush 224, 3, 224, 0, 0, []) := rfl
theorem c_188_60 : mm_code 188 60 = some (Instr.iload_n 1, 1, 0, 0, 0, []) := rfl
theorem c_188_61 : mm_code 188 61 = some (Instr.bipush 12, 2, 12, 0, 0, []) := rfl
theorem c_188_63 : mm_code 188 63 = some (Instr.ishr, 1, 0, 0, 0, []) := rfl
theorem c_188_64 : mm_code 188 64 = some (Instr.ior, 1, 0, 0, 0, []) := rfl
theorem c_188_65 : mm_code 188 65 = some (Instr.invokevirtual 287, 3, 10, 185, 1, [1229, 1231, 51, 66, 1232]) := rfl
theorem c_188_68 : mm_code 188 68 = some (Instr.aload_n 0, 1, 0, 0, 0, []) := rfl
theorem c_188_69 : mm_code 188 69 = some (Instr.sipush 128, 3, 128, 0, 0, []) := rfl
theorem c_188_72 : mm_code 188 72 = some (Instr.iload_n 1, 1, 0, 0, 0, []) := rfl
theorem c_188_73 : mm_code 188 73 = some (Instr.bipush 6, 2, 6, 0, 0, []) := rfl
theorem c_188_75 : mm_code 188 75 = some (Instr.ishr, 1, 0, 0, 0, []) := rfl
theorem c_188_76 : mm_code 188 76 = some (Instr.bipush 63, 2, 63, 0, 0, []) := rfl
set_option maxRecDepth 100000 in theorem c_188_78 : mm_code 188 78 = some (Instr.iand, 1, 0, 0, 0, []) := rfl
set_option maxRecDepth 100000 in theorem c_188_79 : mm_code 188 79 = some (Instr.ior, 1, 0, 0, 0, []) := rfl
set_option maxRecDepth 100000 in theorem c_188_80 : mm_code 188 80 = some (Instr.invokevirtual 287, 3, 10, 185, 1, [1229, 1231, 51, 66, 1232]) := rfl
set_option maxRecDepth 100000 in theorem c_188_83 : mm_code 188 83 = some (Instr.aload_n 0, 1, 0, 0, 0, []) := rfl
set_option maxRecDepth 100000 in theorem c_188_84 : mm_code 188 84 = some (Instr.sipush 128, 3, 128, 0, 0, []) := rfl
set_option maxRecDepth 100000 in theorem c_188_87 : mm_code 188 87 = some (Instr.iload_n 1, 1, 0, 0, 0, []) := rfl
set_option maxRecDepth 100000 in theorem c_188_88 : mm_code 188 88 = some (Instr.bipush 63, 2, 63, 0, 0, []) := rfl
set_option maxRecDepth 100000 in theorem c_188_90 : mm_code 188 90 = some (Instr.iand, 1, 0, 0, 0, []) := rfl
set_option maxRecDepth 100000 in theorem c_188_91 : mm_code 188 91 = some (Instr.ior, 1, 0, 0, 0, []) := rfl
set_option maxRecDepth 100000 in theorem c_188_92 : mm_code 188 92 = some (Instr.invokevirtual 287, 3, 10, 185, 1, [1229, 1231, 51, 66, 1232]) := rfl
set_option maxRecDepth 100000 in theorem c_188_95 : mm_code 188 95 = some (Instr.goto 57, 3, 0, 152, 0, []) := rfl
set_option maxRecDepth 100000 in theorem c_188_98 : mm_code 188 98 = some (Instr.aload_n 0, 1, 0, 0, 0, []) := rfl
set_option maxRecDepth 100000 in theorem c_188_99 : mm_code 188 99 = some (Instr.sipush 240, 3, 240, 0, 0, []) := rfl
set_option maxRecDepth 100000 in theorem c_188_102 : mm_code 188 102 = some (Instr.iload_n 1, 1, 0, 0, 0, []) := rfl
set_option maxRecDepth 100000 in theorem c_188_103 : mm_code 188 103 = some (Instr.bipush 18, 2, 18, 0, 0, []) := rfl
set_option maxRecDepth 100000 in theorem c_188_105 : mm_code 188 105 = some (Instr.ishr, 1, 0, 0, 0, []) := rfl
set_option maxRecDepth 100000 in theorem c_188_106 : mm_code 188 106 = some (Instr.ior, 1, 0, 0, 0, []) := rfl
set_option maxRecDepth 100000 in theorem c_188_107 : mm_code 188 107 = some (Instr.invokevirtual 287, 3, 10, 185, 1, [1229, 1231, 51, 66, 1232]) := rfl
set_option maxRecDepth 100000 in theorem c_188_110 : mm_code 188 110 = some (Instr.aload_n 0, 1, 0, 0, 0, []) := rfl
set_option maxRecDepth 100000 in theorem c_188_111 : mm_code 188 111 = some (Instr.sipush 128, 3, 128, 0, 0, []) := rfl
set_option maxRecDepth 100000 in theorem c_188_114 : mm_code 188 114 = some (Instr.iload_n 1, 1, 0, 0, 0, []) := rfl
set_option maxRecDepth 100000 in theorem c_188_115 : mm_code 188 115 = some (Instr.bipush 12, 2, 12, 0, 0, []) := rfl
set_option maxRecDepth 100000 in theorem c_188_117 : mm_code 188 117 = some (Instr.ishr, 1, 0, 0, 0, []) := rfl
set_option maxRecDepth 100000 in theorem c_188_118 : mm_code 188 118 = some (Instr.bipush 63, 2, 63, 0, 0, []) := rfl
set_option maxRecDepth 100000 in theorem c_188_120 : mm_code 188 120 = some (Instr.iand, 1, 0, 0, 0, []) := rfl
set_option maxRecDepth 100000 in theorem c_188_121 : mm_code 188 121 = some (Instr.ior, 1, 0, 0, 0, []) := rfl
set_option maxRecDepth 100000 in theorem c_188_122 : mm_code 188 122 = some (Instr.invokevirtual 287, 3, 10, 185, 1, [1229, 1231, 51, 66, 1232]) := rfl
set_option maxRecDepth 100000 in theorem c_188_125 : mm_code 188 125 = some (Instr.aload_n 0, 1, 0, 0, 0, []) := rfl
set_option maxRecDepth 100000 in theorem c_188_126 : mm_code 188 126 = some (Instr.sipush 128, 3, 128, 0, 0, []) := rfl
set_option maxRecDepth 100000 in theorem c_188_129 : mm_code 188 129 = some (Instr.iload_n 1, 1, 0, 0, 0, []) := rfl
set_option maxRecDepth 100000 in theorem c_188_130 : mm_code 188 130 = some (Instr.bipush 6, 2, 6, 0, 0, []) := rfl
set_option maxRecDepth 100000 in theorem c_188_132 : mm_code 188 132 = some (Instr.ishr, 1, 0, 0, 0, []) := rfl
set_option maxRecDepth 100000 in theorem c_188_133 : mm_code 188 133 = some (Instr.bipush 63, 2, 63, 0, 0, []) := rfl
set_option maxRecDepth 100000 in theorem c_188_135 : mm_code 188 135 = some (Instr.iand, 1, 0, 0, 0, []) := rfl
set_option maxRecDepth 100000 in theorem c_188_136 : mm_code 188 136 = some (Instr.ior, 1, 0, 0, 0, []) := rfl
set_option maxRecDepth 100000 in theorem c_188_137 : mm_code 188 137 = some (Instr.invokevirtual 287, 3, 10, 185, 1, [1229, 1231, 51, 66, 1232]) := rfl
set_option maxRecDepth 100000 in theorem c_188_140 : mm_code 188 140 = some (Instr.aload_n 0, 1, 0, 0, 0, []) := rfl
set_option maxRecDepth 100000 in theorem c_188_141 : mm_code 188 141 = some (Instr.sipush 128, 3, 128, 0, 0, []) := rfl
set_option maxRecDepth 100000 in theorem c_188_144 : mm_code 188 144 = some (Instr.iload_n 1, 1, 0, 0, 0, []) := rfl
set_option maxRecDepth 100000 in theorem c_188_145 : mm_code 188 145 = some (Instr.bipush 63, 2, 63, 0, 0, []) := rfl
set_option maxRecDepth 100000 in theorem c_188_147 : mm_code 188 147 = some (Instr.iand, 1, 0, 0, 0, []) := rfl
set_option maxRecDepth 100000 in theorem c_188_148 : mm_code 188 148 = some (Instr.ior, 1, 0, 0, 0, []) := rfl
set_option maxRecDepth 100000 in theorem c_188_149 : mm_code 188 149 = some (Instr.invokevirtual 287, 3, 10, 185, 1, [1229, 1231, 51, 66, 1232]) := rfl
set_option maxRecDepth 100000 in theorem c_188_152 : mm_code 188 152 = some (Instr.return_, 1, 0, 0, 0, []) := rfl
theorem c_189_0 : mm_code 189 0 = some (Instr.aload_n 0, 1, 0, 0, 0, []) := rfl
theorem c_189_1 : mm_code 189 1 = some (Instr.iconst 0, 1, 0, 0, 0, []) := rfl
theorem c_189_2 : mm_code 189 2 = some (Instr.putfield 112, 3, 1, 10, 0, [857]) := rfl
theorem c_189_5 : mm_code 189 5 = some (Instr.iload_n 1, 1, 0, 0, 0, []) := rfl
theorem c_189_6 : mm_code 189 6 = some (Instr.ifCond .ne 10, 3, 0, 16, 0, []) := rfl
theorem c_189_9 : mm_code 189 9 = some (Instr.aload_n 0, 1, 0, 0, 0, []) := rfl
theorem c_189_10 : mm_code 189 10 = some (Instr.getfield 257, 3, 0, 10, 37, [894]) := rfl
theorem c_189_13 : mm_code 189 13 = some (Instr.goto 41, 3, 0, 54, 0, []) := rfl
theorem c_189_16 : mm_code 189 16 = some (Instr.iload_n 1, 1, 0, 0, 0, []) := rfl
theorem c_189_17 : mm_code 189 17 = some (Instr.iconst 1, 1, 1, 0, 0, []) := rfl
theorem c_189_18 : mm_code 189 18 = some (Instr.if_icmp .ne 10, 3, 0, 28, 0, []) := rfl
theorem c_189_21 : mm_code 189 21 = some (Instr.aload_n 0, 1, 0, 0, 0, []) := rfl
theorem c_189_22 : mm_code 189 22 = some (Instr.getfield 260, 3, 0, 10, 38, [895]) := rfl
theorem c_189_25 : mm_code 189 25 = some (Instr.goto 29, 3, 0, 54, 0, []) := rfl
theorem c_189_28 : mm_code 189 28 = some (Instr.iload_n 1, 1, 0, 0, 0, []) := rfl
theorem c_189_29 : mm_code 189 29 = some (Instr.iconst 2, 1, 2, 0, 0, []) := rfl
theorem c_189_30 : mm_code 189 30 = some (Instr.if_icmp .ne 10, 3, 0, 40, 0, []) := rfl
theorem c_189_33 : mm_code 189 33 = some (Instr.aload_n 0, 1, 0, 0, 0, []) := rfl
theorem c_189_34 : mm_code 189 34 = some (Instr.getfield 263, 3, 0, 10, 39, [896]) := rfl
theorem c_189_37 : mm_code 189 37 = some (Instr.goto 17, 3, 0, 54, 0, []) := rfl
theorem c_189_40 : mm_code 189 40 = some (Instr.iload_n 1, 1, 0, 0, 0, []) := rfl
theorem c_189_41 : mm_code 189 41 = some (Instr.iconst 3, 1, 3, 0, 0, []) := rfl
theorem c_189_42 : mm_code 189 42 = some (Instr.if_icmp .ne 10, 3, 0, 52, 0, []) := rfl
theorem c_189_45 : mm_code 189 45 = some (Instr.aload_n 0, 1, 0, 0, 0, []) := rfl
theorem c_189_46 : mm_code 189 46 = some (Instr.getfield 307, 3, 0, 10, 40, [897]) := rfl
theorem c_189_49 : mm_code 189 49 = some (Instr.goto 5, 3, 0, 54, 0, []) := rfl
theorem c_189_52 : mm_code 189 52 = some (Instr.bipush (-2), 2, (-2), 0, 0, []) := rfl
theorem c_189_54 : mm_code 189 54 = some (Instr.ireturn, 1, 0, 0, 0, []) := rfl
theorem c_190_0 : mm_code 190 0 = some (Instr.aload_n 0, 1, 0, 0, 0, []) := rfl
theorem c_190_1 : mm_code 190 1 = some (Instr.iconst 0, 1, 0, 0, 0, []) := rfl
theorem c_190_2 : mm_code 190 2 = some (Instr.putfield 112, 3, 1, 10, 0, [857]) := rfl
theorem c_190_5 : mm_code 190 5 = some (Instr.iload_n 1, 1, 0, 0, 0, []) := rfl
theorem c_190_6 : mm_code 190 6 = some (Instr.iconst 0, 1, 0, 0, 0, []) := rfl
theorem c_190_7 : mm_code 190 7 = some (Instr.aload_n 0, 1, 0, 0, 0, []) := rfl
theorem c_190_8 : mm_code 190 8 = some (Instr.getfield 323, 3, 0, 10, 48, [905]) := rfl
theorem c_190_11 : mm_code 190 11 = some (Instr.iconst 1, 1, 1, 0, 0, []) := rfl
theorem c_190_12 : mm_code 190 12 = some (Instr.isub, 1, 0, 0, 0, []) := rfl
theorem c_190_13 : mm_code 190 13 = some (Instr.invokestatic 116, 3, 0, 135, 3, [1022, 1023, 66, 1024]) := rfl
theorem c_190_16 : mm_code 190 16 = some (Instr.ifCond .eq 16, 3, 0, 32, 0, []) := rfl
theorem c_190_19 : mm_code 190 19 = some (Instr.aload_n 0, 1, 0, 0, 0, []) := rfl
theorem c_190_20 : mm_code 190 20 = some (Instr.getfield 96, 3, 0, 10, 47, [904]) := rfl
theorem c_190_23 : mm_code 190 23 = some (Instr.iload_n 1, 1, 0, 0, 0, []) := rfl
theorem c_190_24 : mm_code 190 24 = some (Instr.baload, 1, 0, 0, 0, []) := rfl
theorem c_190_25 : mm_code 190 25 = some (Instr.sipush 255, 3, 255, 0, 0, []) := rfl
theorem c_190_28 : mm_code 190 28 = some (Instr.iand, 1, 0, 0, 0, []) := rfl
theorem c_190_29 : mm_code 190 29 = some (Instr.goto 4, 3, 0, 33, 0, []) := rfl
theorem c_190_32 : mm_code 190 32 = some (Instr.iconst (-1), 1, (-1), 0, 0, []) := rfl
theorem c_190_33 : mm_code 190 33 = some (Instr.ireturn, 1, 0, 0, 0, []) := rfl
